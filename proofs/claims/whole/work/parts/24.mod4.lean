theorem onC_v {n : Int} {tb : Int → Int → Int} {p l : Int} (hp : 0 ≤ p) (hp2 : p < NP n) (hll : 0 ≤ l) (hll2 : l < NP n) : onC n tb p l = if n * n ≤ l then (if p / n = l - n * n then true else decide (p = n * n + n)) else if p < n * n then decide (p % n = sumS n (tb (p / n) (l / n)) (l % n)) else decide (p = n * n + l / n) := by
  unfold onC
  rw [inN_t hp hp2, inN_t hll hll2]
  rfl
theorem div_top {n p : Int} (hn : okN n) : ¬ (n * n ≤ p ∧ p < n * n + n) ∨ p / n = n := by
  have hl := okN_lo hn
  by_cases h : n * n ≤ p ∧ p < n * n + n
  · refine Or.inr ?_
    rw [show p = (p - n * n) + n * n by omega, Int.add_mul_ediv_right _ _ (by omega), Int.ediv_eq_zero_of_lt (by omega) (by omega)]
    omega
  · exact Or.inl h
theorem div_end {n p : Int} (hn : okN n) : ¬ p = n * n + n ∨ p / n = n + 1 := by
  have hl := okN_lo hn
  by_cases h : p = n * n + n
  · refine Or.inr ?_
    rw [show p = 0 + (n + 1) * n by rw [Int.add_mul]; omega, Int.add_mul_ediv_right _ _ (by omega)]
    simp
  · exact Or.inl h
set_option maxHeartbeats 4000000 in
set_option maxRecDepth 100000 in
theorem d_on {X : Nat × Nat × (Nat → Int32)} {C : CS} {n : Int} {S : Int → Int} {P K : TS} {F : Int × Int × Int} {B : (Nat → Int64) × (Nat → Int64)} {G : Int → Int} {E : Int × Int} {tb : Int → Int → Int} {p l : Int} (hR : repM n S tb) (hp : 0 ≤ p) (hp2 : p < NP n) (hll : 0 ≤ l) (hll2 : l < NP n) : m_Run X 109 [.inr (.inl 13), .inl p, .inl l] (mW C (S, P, K, F, B, G, E)) (m_V (bI (onC n tb p l)) (mW C (S, P, K, F, B, G, E))) := by
  have hn := hR.1
  have hl := okN_lo hn
  have hs0 := hR.2.1
  have hq := sq_b hn
  have hnp : NP n = n * n + n + 1 := rfl
  have zd1 := dmp (n := n) (p := p) hn
  have zd2 := dmp (n := n) (p := l) hn
  have zd3 := div_np (n := n) (p := p) hn
  have zd4 := div_np (n := n) (p := l) hn
  have zd5 := mod_in (n := n) (p := p) hn
  have zd6 := mod_in (n := n) (p := l) hn
  have zd7 := div_top (n := n) (p := p) hn
  have zd8 := div_end (n := n) (p := p) hn
  show m_Sem X 109 (0, [some (.inr (.inl 13)), some (.inl p), some (.inl l), none, none], [], mW C (S, P, K, F, B, G, E), 0, 0) _
  refine m_run 3 (ps' := (5, [some (.inr (.inl 13)), some (.inl p), some (.inl l), none, none], [.inl 0, .inr (.inl 14)], mW C (S, P, K, F, B, G, E), 0, 0)) rfl ?_
  refine m_iald rfl rfl (by omega) (by omega) (by decide) ?_
  show m_Sem X 109 (6, [some (.inr (.inl 13)), some (.inl p), some (.inl l), none, none], [.inl (S 0)], mW C (S, P, K, F, B, G, E), 0, 0) _
  rw [hs0]
  refine m_run 9 (ps' := (17, [some (.inr (.inl 13)), some (.inl p), some (.inl l), some (.inl n), some (.inl (n * n))], [.inl ((n * n) + n), .inl l], mW C (S, P, K, F, B, G, E), 0, 0)) rfl ?_
  refine m_icmp rfl ⟨by omega, by omega⟩ ⟨by omega, by omega⟩ (fun (zc1 : ¬ l = ((n * n) + n)) => ?_) (fun (zc1 : ¬ ¬ l = ((n * n) + n)) => ?_)
  · refine m_run 2 (ps' := (35, [some (.inr (.inl 13)), some (.inl p), some (.inl l), some (.inl n), some (.inl (n * n))], [.inl (n * n), .inl l], mW C (S, P, K, F, B, G, E), 0, 0)) rfl ?_
    refine m_icmp rfl ⟨by omega, by omega⟩ ⟨by omega, by omega⟩ (fun (zc2 : l < (n * n)) => ?_) (fun (zc2 : ¬ l < (n * n)) => ?_)
    · refine m_run 2 (ps' := (79, [some (.inr (.inl 13)), some (.inl p), some (.inl l), some (.inl n), some (.inl (n * n))], [.inl (n * n), .inl p], mW C (S, P, K, F, B, G, E), 0, 0)) rfl ?_
      refine m_icmp rfl ⟨by omega, by omega⟩ ⟨by omega, by omega⟩ (fun (zc3 : (n * n) ≤ p) => ?_) (fun (zc3 : ¬ (n * n) ≤ p) => ?_)
      · refine m_run 4 (ps' := (118, [some (.inr (.inl 13)), some (.inl p), some (.inl l), some (.inl n), some (.inl (n * n))], [.inl n, .inl l, .inl (n * n), .inl p], mW C (S, P, K, F, B, G, E), 0, 0)) rfl ?_
        refine m_div rfl (by omega) (by omega) (by omega) (by omega) ?_
        refine m_run 1 (ps' := (120, [some (.inr (.inl 13)), some (.inl p), some (.inl l), some (.inl n), some (.inl (n * n))], [.inl ((n * n) + (l / n)), .inl p], mW C (S, P, K, F, B, G, E), 0, 0)) rfl ?_
        refine m_icmp rfl ⟨by omega, by omega⟩ ⟨by omega, by omega⟩ (fun (zc4 : ¬ p = ((n * n) + (l / n))) => ?_) (fun (zc4 : ¬ ¬ p = ((n * n) + (l / n))) => ?_)
        · refine m_run 1 (ps' := (128, [some (.inr (.inl 13)), some (.inl p), some (.inl l), some (.inl n), some (.inl (n * n))], [.inl 0], mW C (S, P, K, F, B, G, E), 0, 0)) rfl ?_
          exact m_ret1 rfl (Or.inr ⟨rfl, Or.inl rfl⟩) rfl (m_Vb (b0 (by rw [onC_v hp hp2 hll hll2]; (repeat' split) <;> first | rfl | exact decide_eq_true (by first | assumption | omega) | exact decide_eq_false (by first | assumption | omega) | (exfalso; omega) | simp_all)))
        · replace zc4 : p = ((n * n) + (l / n)) := Decidable.not_not.mp zc4
          refine m_run 2 (ps' := (128, [some (.inr (.inl 13)), some (.inl p), some (.inl l), some (.inl n), some (.inl (n * n))], [.inl 1], mW C (S, P, K, F, B, G, E), 0, 0)) rfl ?_
          exact m_ret1 rfl (Or.inr ⟨rfl, Or.inr rfl⟩) rfl (m_Vb (b1 (by rw [onC_v hp hp2 hll hll2]; (repeat' split) <;> first | rfl | exact decide_eq_true (by first | assumption | omega) | exact decide_eq_false (by first | assumption | omega) | (exfalso; omega) | simp_all)))
      · refine m_run 2 (ps' := (84, [some (.inr (.inl 13)), some (.inl p), some (.inl l), some (.inl n), some (.inl (n * n))], [.inl n, .inl p], mW C (S, P, K, F, B, G, E), 0, 0)) rfl ?_
        refine m_rem rfl (by omega) (by omega) (by omega) (by omega) ?_
        refine m_run 4 (ps' := (89, [some (.inr (.inl 13)), some (.inl p), some (.inl l), some (.inl n), some (.inl (n * n))], [.inl n, .inl p, .inr (.inl 13), .inr (.inl 13), .inl (p % n)], mW C (S, P, K, F, B, G, E), 0, 0)) rfl ?_
        refine m_div rfl (by omega) (by omega) (by omega) (by omega) ?_
        refine m_run 2 (ps' := (92, [some (.inr (.inl 13)), some (.inl p), some (.inl l), some (.inl n), some (.inl (n * n))], [.inl n, .inl l, .inl (p / n), .inr (.inl 13), .inr (.inl 13), .inl (p % n)], mW C (S, P, K, F, B, G, E), 0, 0)) rfl ?_
        refine m_div rfl (by omega) (by omega) (by omega) (by omega) ?_
        refine m_callVF [.inl (p / n), .inl (l / n)] [.inr (.inl 13), .inl (p % n)] rfl rfl ⟨_, rfl, rfl⟩ rfl rfl (d_times (a := (p / n)) (b := (l / n)) hR (by omega) (by omega) (by omega) (by omega)) ?_
        have zt1 := (hR.2.2 (p / n) (l / n) (by omega) (by omega) (by omega) (by omega)).2
        show m_Sem X 109 (96, [some (.inr (.inl 13)), some (.inl p), some (.inl l), some (.inl n), some (.inl (n * n))], [.inl (tb (p / n) (l / n)), .inr (.inl 13), .inl (p % n)], mW C (S, P, K, F, B, G, E), 0, 0) _
        refine m_run 2 (ps' := (98, [some (.inr (.inl 13)), some (.inl p), some (.inl l), some (.inl n), some (.inl (n * n))], [.inl n, .inl l, .inl (tb (p / n) (l / n)), .inr (.inl 13), .inl (p % n)], mW C (S, P, K, F, B, G, E), 0, 0)) rfl ?_
        refine m_rem rfl (by omega) (by omega) (by omega) (by omega) ?_
        refine m_callVF [.inl (tb (p / n) (l / n)), .inl (l % n)] [.inl (p % n)] rfl rfl ⟨_, rfl, rfl⟩ rfl rfl (d_sum (a := (tb (p / n) (l / n))) (b := (l % n)) hn hs0 (by omega) (by omega) (by omega) (by omega)) ?_
        have zt2 := sumS_in (n := n) (a := (tb (p / n) (l / n))) (b := (l % n)) hn (by omega) (by omega) (by omega) (by omega)
        show m_Sem X 109 (102, [some (.inr (.inl 13)), some (.inl p), some (.inl l), some (.inl n), some (.inl (n * n))], [.inl (sumS n (tb (p / n) (l / n)) (l % n)), .inl (p % n)], mW C (S, P, K, F, B, G, E), 0, 0) _
        refine m_icmp rfl ⟨by omega, by omega⟩ ⟨by omega, by omega⟩ (fun (zc4 : ¬ (p % n) = (sumS n (tb (p / n) (l / n)) (l % n))) => ?_) (fun (zc4 : ¬ ¬ (p % n) = (sumS n (tb (p / n) (l / n)) (l % n))) => ?_)
        · refine m_run 2 (ps' := (128, [some (.inr (.inl 13)), some (.inl p), some (.inl l), some (.inl n), some (.inl (n * n))], [.inl 0], mW C (S, P, K, F, B, G, E), 0, 0)) rfl ?_
          exact m_ret1 rfl (Or.inr ⟨rfl, Or.inl rfl⟩) rfl (m_Vb (b0 (by rw [onC_v hp hp2 hll hll2]; (repeat' split) <;> first | rfl | exact decide_eq_true (by first | assumption | omega) | exact decide_eq_false (by first | assumption | omega) | (exfalso; omega) | simp_all)))
        · replace zc4 : (p % n) = (sumS n (tb (p / n) (l / n)) (l % n)) := Decidable.not_not.mp zc4
          refine m_run 2 (ps' := (128, [some (.inr (.inl 13)), some (.inl p), some (.inl l), some (.inl n), some (.inl (n * n))], [.inl 1], mW C (S, P, K, F, B, G, E), 0, 0)) rfl ?_
          exact m_ret1 rfl (Or.inr ⟨rfl, Or.inr rfl⟩) rfl (m_Vb (b1 (by rw [onC_v hp hp2 hll hll2]; (repeat' split) <;> first | rfl | exact decide_eq_true (by first | assumption | omega) | exact decide_eq_false (by first | assumption | omega) | (exfalso; omega) | simp_all)))
    · refine m_run 2 (ps' := (41, [some (.inr (.inl 13)), some (.inl p), some (.inl l), some (.inl n), some (.inl (n * n))], [.inl (n * n), .inl p], mW C (S, P, K, F, B, G, E), 0, 0)) rfl ?_
      refine m_icmp rfl ⟨by omega, by omega⟩ ⟨by omega, by omega⟩ (fun (zc3 : (n * n) ≤ p) => ?_) (fun (zc3 : ¬ (n * n) ≤ p) => ?_)
      · refine m_run 4 (ps' := (67, [some (.inr (.inl 13)), some (.inl p), some (.inl l), some (.inl n), some (.inl (n * n))], [.inl ((n * n) + n), .inl p], mW C (S, P, K, F, B, G, E), 0, 0)) rfl ?_
        refine m_icmp rfl ⟨by omega, by omega⟩ ⟨by omega, by omega⟩ (fun (zc4 : ¬ p = ((n * n) + n)) => ?_) (fun (zc4 : ¬ ¬ p = ((n * n) + n)) => ?_)
        · refine m_run 1 (ps' := (75, [some (.inr (.inl 13)), some (.inl p), some (.inl l), some (.inl n), some (.inl (n * n))], [.inl 0], mW C (S, P, K, F, B, G, E), 0, 0)) rfl ?_
          exact m_ret1 rfl (Or.inr ⟨rfl, Or.inl rfl⟩) rfl (m_Vb (b0 (by rw [onC_v hp hp2 hll hll2]; (repeat' split) <;> first | rfl | exact decide_eq_true (by first | assumption | omega) | exact decide_eq_false (by first | assumption | omega) | (exfalso; omega) | simp_all)))
        · replace zc4 : p = ((n * n) + n) := Decidable.not_not.mp zc4
          refine m_run 2 (ps' := (75, [some (.inr (.inl 13)), some (.inl p), some (.inl l), some (.inl n), some (.inl (n * n))], [.inl 1], mW C (S, P, K, F, B, G, E), 0, 0)) rfl ?_
          exact m_ret1 rfl (Or.inr ⟨rfl, Or.inr rfl⟩) rfl (m_Vb (b1 (by rw [onC_v hp hp2 hll hll2]; (repeat' split) <;> first | rfl | exact decide_eq_true (by first | assumption | omega) | exact decide_eq_false (by first | assumption | omega) | (exfalso; omega) | simp_all)))
      · refine m_run 2 (ps' := (46, [some (.inr (.inl 13)), some (.inl p), some (.inl l), some (.inl n), some (.inl (n * n))], [.inl n, .inl p], mW C (S, P, K, F, B, G, E), 0, 0)) rfl ?_
        refine m_div rfl (by omega) (by omega) (by omega) (by omega) ?_
        refine m_run 3 (ps' := (51, [some (.inr (.inl 13)), some (.inl p), some (.inl l), some (.inl n), some (.inl (n * n))], [.inl (l - (n * n)), .inl (p / n)], mW C (S, P, K, F, B, G, E), 0, 0)) rfl ?_
        refine m_icmp rfl ⟨by omega, by omega⟩ ⟨by omega, by omega⟩ (fun (zc4 : ¬ (p / n) = (l - (n * n))) => ?_) (fun (zc4 : ¬ ¬ (p / n) = (l - (n * n))) => ?_)
        · refine m_run 2 (ps' := (75, [some (.inr (.inl 13)), some (.inl p), some (.inl l), some (.inl n), some (.inl (n * n))], [.inl 0], mW C (S, P, K, F, B, G, E), 0, 0)) rfl ?_
          exact m_ret1 rfl (Or.inr ⟨rfl, Or.inl rfl⟩) rfl (m_Vb (b0 (by rw [onC_v hp hp2 hll hll2]; (repeat' split) <;> first | rfl | exact decide_eq_true (by first | assumption | omega) | exact decide_eq_false (by first | assumption | omega) | (exfalso; omega) | simp_all)))
        · replace zc4 : (p / n) = (l - (n * n)) := Decidable.not_not.mp zc4
          refine m_run 2 (ps' := (75, [some (.inr (.inl 13)), some (.inl p), some (.inl l), some (.inl n), some (.inl (n * n))], [.inl 1], mW C (S, P, K, F, B, G, E), 0, 0)) rfl ?_
          exact m_ret1 rfl (Or.inr ⟨rfl, Or.inr rfl⟩) rfl (m_Vb (b1 (by rw [onC_v hp hp2 hll hll2]; (repeat' split) <;> first | rfl | exact decide_eq_true (by first | assumption | omega) | exact decide_eq_false (by first | assumption | omega) | (exfalso; omega) | simp_all)))
  · replace zc1 : l = ((n * n) + n) := Decidable.not_not.mp zc1
    refine m_run 2 (ps' := (23, [some (.inr (.inl 13)), some (.inl p), some (.inl l), some (.inl n), some (.inl (n * n))], [.inl (n * n), .inl p], mW C (S, P, K, F, B, G, E), 0, 0)) rfl ?_
    refine m_icmp rfl ⟨by omega, by omega⟩ ⟨by omega, by omega⟩ (fun (zc2 : p < (n * n)) => ?_) (fun (zc2 : ¬ p < (n * n)) => ?_)
    · refine m_run 1 (ps' := (31, [some (.inr (.inl 13)), some (.inl p), some (.inl l), some (.inl n), some (.inl (n * n))], [.inl 0], mW C (S, P, K, F, B, G, E), 0, 0)) rfl ?_
      exact m_ret1 rfl (Or.inr ⟨rfl, Or.inl rfl⟩) rfl (m_Vb (b0 (by rw [onC_v hp hp2 hll hll2]; (repeat' split) <;> first | rfl | exact decide_eq_true (by first | assumption | omega) | exact decide_eq_false (by first | assumption | omega) | (exfalso; omega) | simp_all)))
    · refine m_run 2 (ps' := (31, [some (.inr (.inl 13)), some (.inl p), some (.inl l), some (.inl n), some (.inl (n * n))], [.inl 1], mW C (S, P, K, F, B, G, E), 0, 0)) rfl ?_
      exact m_ret1 rfl (Or.inr ⟨rfl, Or.inr rfl⟩) rfl (m_Vb (b1 (by rw [onC_v hp hp2 hll hll2]; (repeat' split) <;> first | rfl | exact decide_eq_true (by first | assumption | omega) | exact decide_eq_false (by first | assumption | omega) | (exfalso; omega) | simp_all)))
set_option maxHeartbeats 4000000 in
set_option maxRecDepth 100000 in
theorem d_mark {X : Nat × Nat × (Nat → Int32)} {C : CS} {S : Int → Int} {P K : TS} {F : Int × Int × Int} {B : (Nat → Int64) × (Nat → Int64)} {G : Int → Int} {E : Int × Int} {a j : Int} (h1 : 0 ≤ a) (h2 : a < 182) (h3 : 0 ≤ j) (h4 : j < 91) : m_Run X 110 [.inr (.inl 13), .inl a, .inl j] (mW C (S, P, K, F, B, G, E)) (m_U (mW C (S, P, K, F, (markB B a j), G, E))) := by
  show m_Sem X 110 (0, [some (.inr (.inl 13)), some (.inl a), some (.inl j)], [], mW C (S, P, K, F, B, G, E), 0, 0) _
  refine m_run 2 (ps' := (3, [some (.inr (.inl 13)), some (.inl a), some (.inl j)], [.inl 60, .inl j], mW C (S, P, K, F, B, G, E), 0, 0)) rfl ?_
  refine m_icmp rfl ⟨by omega, by omega⟩ ⟨by omega, by omega⟩ (fun (zc1 : 60 ≤ j) => ?_) (fun (zc1 : ¬ 60 ≤ j) => ?_)
  · refine m_run 4 (ps' := (27, [some (.inr (.inl 13)), some (.inl a), some (.inl j)], [.inl a, .inr (.inl 18), .inl a, .inr (.inl 18)], mW C (S, P, K, F, B, G, E), 0, 0)) rfl ?_
    refine m_lald rfl rfl (by omega) (by omega) (by decide) ?_
    refine m_run 6 (ps' := (35, [some (.inr (.inl 13)), some (.inl a), some (.inl j)], [.inr (.inr (.long ((B.2 (a).toNat) ||| ((Int64.ofNat 1) <<< ((Int32.ofInt (j - 60)).toInt64 &&& 63))))), .inl a, .inr (.inl 18)], mW C (S, P, K, F, B, G, E), 0, 0)) rfl ?_
    refine m_last rfl rfl (by omega) (by omega) (by decide) ?_
    show m_Sem X 110 (36, [some (.inr (.inl 13)), some (.inl a), some (.inl j)], [], mW C (S, P, K, F, (B.1, (vp_updL B.2 (a).toNat ((B.2 (a).toNat) ||| ((Int64.ofNat 1) <<< ((Int32.ofInt (j - 60)).toInt64 &&& 63))))), G, E), 0, 0) _
    exact m_ret0 rfl rfl rfl (⟨rfl, by unfold markB; rw [if_neg (show ¬ j < 60 by omega)]⟩)
  · refine m_run 4 (ps' := (12, [some (.inr (.inl 13)), some (.inl a), some (.inl j)], [.inl a, .inr (.inl 17), .inl a, .inr (.inl 17)], mW C (S, P, K, F, B, G, E), 0, 0)) rfl ?_
    refine m_lald rfl rfl (by omega) (by omega) (by decide) ?_
    refine m_run 4 (ps' := (17, [some (.inr (.inl 13)), some (.inl a), some (.inl j)], [.inr (.inr (.long ((B.1 (a).toNat) ||| ((Int64.ofNat 1) <<< ((Int32.ofInt j).toInt64 &&& 63))))), .inl a, .inr (.inl 17)], mW C (S, P, K, F, B, G, E), 0, 0)) rfl ?_
    refine m_last rfl rfl (by omega) (by omega) (by decide) ?_
    show m_Sem X 110 (18, [some (.inr (.inl 13)), some (.inl a), some (.inl j)], [], mW C (S, P, K, F, ((vp_updL B.1 (a).toNat ((B.1 (a).toNat) ||| ((Int64.ofNat 1) <<< ((Int32.ofInt j).toInt64 &&& 63)))), B.2), G, E), 0, 0) _
    refine m_run 1 (ps' := (36, [some (.inr (.inl 13)), some (.inl a), some (.inl j)], [], mW C (S, P, K, F, ((vp_updL B.1 (a).toNat ((B.1 (a).toNat) ||| ((Int64.ofNat 1) <<< ((Int32.ofInt j).toInt64 &&& 63)))), B.2), G, E), 0, 0)) rfl ?_
    exact m_ret0 rfl rfl rfl (⟨rfl, by unfold markB; rw [if_pos (show j < 60 by omega)]⟩)
set_option maxHeartbeats 4000000 in
set_option maxRecDepth 100000 in
theorem e_drI {X : Nat × Nat × (Nat → Int32)} {C : CS} {n : Int} {S : Int → Int} {P K : TS} {F : Int × Int × Int} {G : Int → Int} {E : Int × Int} {tb : Int → Int → Int} {l : Int} {Q : Option mPV → mPW → Prop} (hR : repM n S tb) (hl1 : 0 ≤ l) (hl2 : l < NP n) (K9 : ∀ B : (Nat → Int64) × (Nat → Int64), drwB n tb (l + 1) 0 B → m_Sem X 111 (36, [some (.inr (.inl 13)), some (.inl (NP n)), some (.inl (l + 1)), none], [], mW C (S, P, K, F, B, G, E), 0, 0) Q) : ∀ p : Int, 0 ≤ p → p ≤ (NP n) → ∀ (B : (Nat → Int64) × (Nat → Int64)) (hf : drwB n tb l p B), m_Sem X 111 (43, [some (.inr (.inl 13)), some (.inl (NP n)), some (.inl l), some (.inl p)], [], mW C (S, P, K, F, B, G, E), 0, 0) (Q) := by
  have hn := hR.1
  have hl := okN_lo hn
  have hs0 := hR.2.1
  have hq := sq_b hn
  have hnp : NP n = n * n + n + 1 := rfl
  refine m_down 0 (NP n) ?_ ?_
  · intro B hf
    show m_Sem X 111 (43, [some (.inr (.inl 13)), some (.inl (NP n)), some (.inl l), some (.inl (NP n))], [], mW C (S, P, K, F, B, G, E), 0, 0) _
    refine m_run 2 (ps' := (45, [some (.inr (.inl 13)), some (.inl (NP n)), some (.inl l), some (.inl (NP n))], [.inl (NP n), .inl (NP n)], mW C (S, P, K, F, B, G, E), 0, 0)) rfl ?_
    refine m_icmp rfl ⟨by omega, by omega⟩ ⟨by omega, by omega⟩ (fun (zc1 : (NP n) ≤ (NP n)) => ?_) (fun (zc1 : ¬ (NP n) ≤ (NP n)) => absurd zc1 (not_not_intro (by omega)))
    refine m_run 2 (ps' := (36, [some (.inr (.inl 13)), some (.inl (NP n)), some (.inl (l + 1)), some (.inl (NP n))], [], mW C (S, P, K, F, B, G, E), 0, 0)) rfl ?_
    refine m_weak [some (.inr (.inl 13)), some (.inl (NP n)), some (.inl (l + 1)), none] ⟨rfl, ⟨rfl, ⟨rfl, trivial⟩⟩⟩ ?_
    exact K9 B (drw_r hf)
  · intro p hi1 hi2 ih B hf
    refine m_run 2 (ps' := (45, [some (.inr (.inl 13)), some (.inl (NP n)), some (.inl l), some (.inl p)], [.inl (NP n), .inl p], mW C (S, P, K, F, B, G, E), 0, 0)) rfl ?_
    refine m_icmp rfl ⟨by omega, by omega⟩ ⟨by omega, by omega⟩ (fun (zc1 : (NP n) ≤ p) => absurd zc1 (by omega)) (fun (zc1 : ¬ (NP n) ≤ p) => ?_)
    refine m_run 3 (ps' := (51, [some (.inr (.inl 13)), some (.inl (NP n)), some (.inl l), some (.inl p)], [.inl l, .inl p, .inr (.inl 13)], mW C (S, P, K, F, B, G, E), 0, 0)) rfl ?_
    refine m_callVF [.inl p, .inl l] [] rfl rfl ⟨_, rfl, rfl⟩ rfl rfl (d_on (p := p) (l := l) hR (by omega) (by omega) (by omega) (by omega)) ?_
    show m_Sem X 111 (54, [some (.inr (.inl 13)), some (.inl (NP n)), some (.inl l), some (.inl p)], [.inl (bI (onC n tb p l))], mW C (S, P, K, F, B, G, E), 0, 0) _
    refine m_if rfl (bI_R (onC n tb p l)) (fun (zc2 : (bI (onC n tb p l)) = 0) => ?_) (fun (zc2 : ¬ (bI (onC n tb p l)) = 0) => ?_)
    · replace zc2 : (onC n tb p l) = false := bI_e0.mp zc2
      refine m_run 2 (ps' := (43, [some (.inr (.inl 13)), some (.inl (NP n)), some (.inl l), some (.inl (p + 1))], [], mW C (S, P, K, F, B, G, E), 0, 0)) rfl ?_
      refine m_weak [some (.inr (.inl 13)), some (.inl (NP n)), some (.inl l), some (.inl (p + 1))] ⟨rfl, ⟨rfl, ⟨rfl, ⟨rfl, trivial⟩⟩⟩⟩ ?_
      exact ih _ (drw_f hf zc2)
    · replace zc2 : (onC n tb p l) = true := bI_n0.mp zc2
      refine m_run 3 (ps' := (60, [some (.inr (.inl 13)), some (.inl (NP n)), some (.inl l), some (.inl p)], [.inl p, .inl l, .inr (.inl 13)], mW C (S, P, K, F, B, G, E), 0, 0)) rfl ?_
      refine m_callVU [.inl l, .inl p] [] rfl rfl ⟨_, rfl, rfl⟩ rfl rfl (d_mark (B := B) (a := l) (j := p) (by omega) (by omega) (by omega) (by omega)) ?_
      show m_Sem X 111 (63, [some (.inr (.inl 13)), some (.inl (NP n)), some (.inl l), some (.inl p)], [], mW C (S, P, K, F, (markB B l p), G, E), 0, 0) _
      refine m_run 5 (ps' := (69, [some (.inr (.inl 13)), some (.inl (NP n)), some (.inl l), some (.inl p)], [.inl l, .inl (91 + p), .inr (.inl 13)], mW C (S, P, K, F, (markB B l p), G, E), 0, 0)) rfl ?_
      refine m_callVU [.inl (91 + p), .inl l] [] rfl rfl ⟨_, rfl, rfl⟩ rfl rfl (d_mark (B := (markB B l p)) (a := (91 + p)) (j := l) (by omega) (by omega) (by omega) (by omega)) ?_
      show m_Sem X 111 (72, [some (.inr (.inl 13)), some (.inl (NP n)), some (.inl l), some (.inl p)], [], mW C (S, P, K, F, (markB (markB B l p) (91 + p) l), G, E), 0, 0) _
      refine m_run 2 (ps' := (43, [some (.inr (.inl 13)), some (.inl (NP n)), some (.inl l), some (.inl (p + 1))], [], mW C (S, P, K, F, (markB (markB B l p) (91 + p) l), G, E), 0, 0)) rfl ?_
      refine m_weak [some (.inr (.inl 13)), some (.inl (NP n)), some (.inl l), some (.inl (p + 1))] ⟨rfl, ⟨rfl, ⟨rfl, ⟨rfl, trivial⟩⟩⟩⟩ ?_
      exact ih _ (drw_t hf zc2 hl1 (by omega) hi1 (by omega))
set_option maxHeartbeats 4000000 in
set_option maxRecDepth 100000 in
theorem e_drO {X : Nat × Nat × (Nat → Int32)} {C : CS} {n : Int} {S : Int → Int} {P K : TS} {F : Int × Int × Int} {G : Int → Int} {E : Int × Int} {tb : Int → Int → Int} {Q : Option mPV → mPW → Prop} (hR : repM n S tb) (K9 : ∀ B : (Nat → Int64) × (Nat → Int64), rowsB n tb B → Q none (mW C (S, P, K, F, B, G, E))) : ∀ l : Int, 0 ≤ l → l ≤ (NP n) → ∀ (B : (Nat → Int64) × (Nat → Int64)) (hf : drwB n tb l 0 B), m_Sem X 111 (36, [some (.inr (.inl 13)), some (.inl (NP n)), some (.inl l), none], [], mW C (S, P, K, F, B, G, E), 0, 0) (Q) := by
  have hn := hR.1
  have hl := okN_lo hn
  have hs0 := hR.2.1
  have hq := sq_b hn
  have hnp : NP n = n * n + n + 1 := rfl
  refine m_down 0 (NP n) ?_ ?_
  · intro B hf
    show m_Sem X 111 (36, [some (.inr (.inl 13)), some (.inl (NP n)), some (.inl (NP n)), none], [], mW C (S, P, K, F, B, G, E), 0, 0) _
    refine m_run 2 (ps' := (38, [some (.inr (.inl 13)), some (.inl (NP n)), some (.inl (NP n)), none], [.inl (NP n), .inl (NP n)], mW C (S, P, K, F, B, G, E), 0, 0)) rfl ?_
    refine m_icmp rfl ⟨by omega, by omega⟩ ⟨by omega, by omega⟩ (fun (zc1 : (NP n) ≤ (NP n)) => ?_) (fun (zc1 : ¬ (NP n) ≤ (NP n)) => absurd zc1 (not_not_intro (by omega)))
    exact m_ret0 rfl rfl rfl (K9 B (drw_e hf))
  · intro l hi1 hi2 ih B hf
    refine m_run 2 (ps' := (38, [some (.inr (.inl 13)), some (.inl (NP n)), some (.inl l), none], [.inl (NP n), .inl l], mW C (S, P, K, F, B, G, E), 0, 0)) rfl ?_
    refine m_icmp rfl ⟨by omega, by omega⟩ ⟨by omega, by omega⟩ (fun (zc1 : (NP n) ≤ l) => absurd zc1 (by omega)) (fun (zc1 : ¬ (NP n) ≤ l) => ?_)
    refine m_run 2 (ps' := (43, [some (.inr (.inl 13)), some (.inl (NP n)), some (.inl l), some (.inl 0)], [], mW C (S, P, K, F, B, G, E), 0, 0)) rfl ?_
    refine m_weak [some (.inr (.inl 13)), some (.inl (NP n)), some (.inl l), some (.inl 0)] ⟨rfl, ⟨rfl, ⟨rfl, ⟨rfl, trivial⟩⟩⟩⟩ ?_
    exact e_drI hR hi1 hi2 ih 0 (by omega) (by omega) B hf
set_option maxHeartbeats 4000000 in
set_option maxRecDepth 100000 in
theorem e_dr0 {X : Nat × Nat × (Nat → Int32)} {C : CS} {n : Int} {S : Int → Int} {P K : TS} {F : Int × Int × Int} {G : Int → Int} {E : Int × Int} {tb : Int → Int → Int} {Q : Option mPV → mPW → Prop} (hR : repM n S tb) (K9 : ∀ B : (Nat → Int64) × (Nat → Int64), rowsB n tb B → Q none (mW C (S, P, K, F, B, G, E))) : ∀ iv : Int, 0 ≤ iv → iv ≤ 182 → ∀ (B : (Nat → Int64) × (Nat → Int64)) (hf : ∀ j : Nat, (j : Int) < iv → B.1 j = Int64.ofNat 0 ∧ B.2 j = Int64.ofNat 0), m_Sem X 111 (2, [some (.inr (.inl 13)), some (.inl iv), none, none], [], mW C (S, P, K, F, B, G, E), 0, 0) (Q) := by
  have hn := hR.1
  have hl := okN_lo hn
  have hs0 := hR.2.1
  have hq := sq_b hn
  have hnp : NP n = n * n + n + 1 := rfl
  refine m_down 0 182 ?_ ?_
  · intro B hf
    show m_Sem X 111 (2, [some (.inr (.inl 13)), some (.inl 182), none, none], [], mW C (S, P, K, F, B, G, E), 0, 0) _
    refine m_run 2 (ps' := (6, [some (.inr (.inl 13)), some (.inl 182), none, none], [.inl 182, .inl 182], mW C (S, P, K, F, B, G, E), 0, 0)) rfl ?_
    refine m_icmp rfl ⟨by omega, by omega⟩ ⟨by omega, by omega⟩ (fun (zc1 : 182 ≤ 182) => ?_) (fun (zc1 : ¬ 182 ≤ 182) => absurd zc1 (not_not_intro (by omega)))
    refine m_run 1 (ps' := (30, [some (.inr (.inl 13)), some (.inl 182), none, none], [.inr (.inl 13)], mW C (S, P, K, F, B, G, E), 0, 0)) rfl ?_
    refine m_callVF [] [] rfl rfl ⟨_, rfl, rfl⟩ rfl rfl (d_pts hs0) ?_
    show m_Sem X 111 (33, [some (.inr (.inl 13)), some (.inl 182), none, none], [.inl (NP n)], mW C (S, P, K, F, B, G, E), 0, 0) _
    refine m_run 3 (ps' := (36, [some (.inr (.inl 13)), some (.inl (NP n)), some (.inl 0), none], [], mW C (S, P, K, F, B, G, E), 0, 0)) rfl ?_
    refine m_weak [some (.inr (.inl 13)), some (.inl (NP n)), some (.inl 0), none] ⟨rfl, ⟨rfl, ⟨rfl, trivial⟩⟩⟩ ?_
    exact e_drO hR K9 0 (by omega) (by omega) B (drw_0 (fun j h9 => hf j (by omega)))
  · intro iv hi1 hi2 ih B hf
    refine m_run 2 (ps' := (6, [some (.inr (.inl 13)), some (.inl iv), none, none], [.inl 182, .inl iv], mW C (S, P, K, F, B, G, E), 0, 0)) rfl ?_
    refine m_icmp rfl ⟨by omega, by omega⟩ ⟨by omega, by omega⟩ (fun (zc1 : 182 ≤ iv) => absurd zc1 (by omega)) (fun (zc1 : ¬ 182 ≤ iv) => ?_)
    refine m_run 4 (ps' := (15, [some (.inr (.inl 13)), some (.inl iv), none, none], [.inr (.inr (.long (Int64.ofNat 0))), .inl iv, .inr (.inl 17)], mW C (S, P, K, F, B, G, E), 0, 0)) rfl ?_
    refine m_last rfl rfl (by omega) (by omega) (by decide) ?_
    show m_Sem X 111 (16, [some (.inr (.inl 13)), some (.inl iv), none, none], [], mW C (S, P, K, F, ((vp_updL B.1 (iv).toNat (Int64.ofNat 0)), B.2), G, E), 0, 0) _
    refine m_run 4 (ps' := (22, [some (.inr (.inl 13)), some (.inl iv), none, none], [.inr (.inr (.long (Int64.ofNat 0))), .inl iv, .inr (.inl 18)], mW C (S, P, K, F, ((vp_updL B.1 (iv).toNat (Int64.ofNat 0)), B.2), G, E), 0, 0)) rfl ?_
    refine m_last rfl rfl (by omega) (by omega) (by decide) ?_
    show m_Sem X 111 (23, [some (.inr (.inl 13)), some (.inl iv), none, none], [], mW C (S, P, K, F, ((vp_updL B.1 (iv).toNat (Int64.ofNat 0)), (vp_updL B.2 (iv).toNat (Int64.ofNat 0))), G, E), 0, 0) _
    refine m_run 2 (ps' := (2, [some (.inr (.inl 13)), some (.inl (iv + 1)), none, none], [], mW C (S, P, K, F, ((vp_updL B.1 (iv).toNat (Int64.ofNat 0)), (vp_updL B.2 (iv).toNat (Int64.ofNat 0))), G, E), 0, 0)) rfl ?_
    refine m_weak [some (.inr (.inl 13)), some (.inl (iv + 1)), none, none] ⟨rfl, ⟨rfl, trivial⟩⟩ ?_
    refine ih (_, _) (fun j h9 => ?_)
    by_cases he : j = iv.toNat
    · rw [he]; exact ⟨updL_s _ _ _, updL_s _ _ _⟩
    · have h8 := hf j (by omega)
      exact ⟨(updL_n _ _ he).trans h8.1, (updL_n _ _ he).trans h8.2⟩
set_option maxHeartbeats 4000000 in
set_option maxRecDepth 100000 in
theorem d_draw {X : Nat × Nat × (Nat → Int32)} {C : CS} {n : Int} {S : Int → Int} {P K : TS} {F : Int × Int × Int} {B : (Nat → Int64) × (Nat → Int64)} {G : Int → Int} {E : Int × Int} {tb : Int → Int → Int} (hR : repM n S tb) : m_Run X 111 [.inr (.inl 13)] (mW C (S, P, K, F, B, G, E)) (fun r w => r = none ∧ ∃ B2 : (Nat → Int64) × (Nat → Int64), w = mW C (S, P, K, F, B2, G, E) ∧ rowsB n tb B2) := by
  show m_Sem X 111 (0, [some (.inr (.inl 13)), none, none, none], [], mW C (S, P, K, F, B, G, E), 0, 0) _
  refine m_run 2 (ps' := (2, [some (.inr (.inl 13)), some (.inl 0), none, none], [], mW C (S, P, K, F, B, G, E), 0, 0)) rfl ?_
  refine m_weak [some (.inr (.inl 13)), some (.inl 0), none, none] ⟨rfl, ⟨rfl, trivial⟩⟩ ?_
  exact e_dr0 hR (fun B2 hf => ⟨rfl, B2, rfl, hf⟩) 0 (by omega) (by omega) B (fun j h9 => absurd h9 (by omega))
set_option maxHeartbeats 4000000 in
set_option maxRecDepth 100000 in
theorem e_lo2 {X : Nat × Nat × (Nat → Int32)} {C : CS} {S : Int → Int} {P K : TS} {F : Int × Int × Int} {B : (Nat → Int64) × (Nat → Int64)} {G : Int → Int} {E : Int × Int} {x y : Int64} {Pr : Int → Bool} (hr : rowP x y Pr) : ∀ iv : Int, 0 ≤ iv → iv ≤ 31 → m_Sem X 112 (33, [some (.inr (.inr (.long x))), none, some (.inr (.inr (.long y))), none, some (.inl iv)], [], mW C (S, P, K, F, B, G, E), 0, 0) (m_V (onfS (fstF Pr (31 - iv).toNat (60 + iv))) (mW C (S, P, K, F, B, G, E))) := by
  refine m_down 0 31 ?_ ?_
  · show m_Sem X 112 (33, [some (.inr (.inr (.long x))), none, some (.inr (.inr (.long y))), none, some (.inl 31)], [], mW C (S, P, K, F, B, G, E), 0, 0) _
    refine m_run 2 (ps' := (37, [some (.inr (.inr (.long x))), none, some (.inr (.inr (.long y))), none, some (.inl 31)], [.inl 31, .inl 31], mW C (S, P, K, F, B, G, E), 0, 0)) rfl ?_
    refine m_icmp rfl ⟨by omega, by omega⟩ ⟨by omega, by omega⟩ (fun (zc1 : 31 ≤ 31) => ?_) (fun (zc1 : ¬ 31 ≤ 31) => absurd zc1 (not_not_intro (by omega)))
    refine m_run 1 (ps' := (65, [some (.inr (.inr (.long x))), none, some (.inr (.inr (.long y))), none, some (.inl 31)], [.inl (-1000004)], mW C (S, P, K, F, B, G, E), 0, 0)) rfl ?_
    exact m_ret1 rfl (Or.inl rfl) rfl (m_Vi rfl)
  · intro iv hi1 hi2 ih 
    refine m_run 2 (ps' := (37, [some (.inr (.inr (.long x))), none, some (.inr (.inr (.long y))), none, some (.inl iv)], [.inl 31, .inl iv], mW C (S, P, K, F, B, G, E), 0, 0)) rfl ?_
    refine m_icmp rfl ⟨by omega, by omega⟩ ⟨by omega, by omega⟩ (fun (zc1 : 31 ≤ iv) => absurd zc1 (by omega)) (fun (zc1 : ¬ 31 ≤ iv) => ?_)
    refine m_run 7 (ps' := (48, [some (.inr (.inr (.long x))), none, some (.inr (.inr (.long y))), none, some (.inl iv)], [.inl ((lg_cmp ((y >>> ((Int32.ofInt iv).toInt64 &&& 63)) &&& (Int64.ofNat 1)) (Int64.ofNat 1)).toInt)], mW C (S, P, K, F, B, G, E), 0, 0)) rfl ?_
    refine m_if rfl (lgc_R _ _) (fun (zc2 : ¬ (lg_cmp ((y >>> ((Int32.ofInt iv).toInt64 &&& 63)) &&& (Int64.ofNat 1)) (Int64.ofNat 1)).toInt = 0) => ?_) (fun (zc2 : ¬ ¬ (lg_cmp ((y >>> ((Int32.ofInt iv).toInt64 &&& 63)) &&& (Int64.ofNat 1)) (Int64.ofNat 1)).toInt = 0) => ?_)
    · refine m_run 2 (ps' := (33, [some (.inr (.inr (.long x))), none, some (.inr (.inr (.long y))), none, some (.inl (iv + 1))], [], mW C (S, P, K, F, B, G, E), 0, 0)) rfl ?_
      refine m_weak [some (.inr (.inr (.long x))), none, some (.inr (.inr (.long y))), none, some (.inl (iv + 1))] ⟨rfl, ⟨rfl, ⟨rfl, trivial⟩⟩⟩ ?_
      have z9 := fun h9 => zc2 ((lgc_bit y hi1 (by omega)).mpr h9)
      rw [rowP_hi hr hi1 hi2] at z9
      rw [fst2_f hi2 (Bool.eq_false_iff.mpr z9)]
      exact ih
    · replace zc2 : (lg_cmp ((y >>> ((Int32.ofInt iv).toInt64 &&& 63)) &&& (Int64.ofNat 1)) (Int64.ofNat 1)).toInt = 0 := Decidable.not_not.mp zc2
      refine m_run 3 (ps' := (56, [some (.inr (.inr (.long x))), none, some (.inr (.inr (.long y))), none, some (.inl iv)], [.inl (60 + iv)], mW C (S, P, K, F, B, G, E), 0, 0)) rfl ?_
      exact m_ret1 rfl (Or.inl rfl) rfl (m_Vi (by have z9 := (lgc_bit y hi1 (by omega)).mp zc2; rw [rowP_hi hr hi1 hi2] at z9; rw [fst2_t hi2 z9]; unfold onfS; rw [if_neg (by omega)]))
set_option maxHeartbeats 4000000 in
set_option maxRecDepth 100000 in
theorem e_lo1 {X : Nat × Nat × (Nat → Int32)} {C : CS} {S : Int → Int} {P K : TS} {F : Int × Int × Int} {B : (Nat → Int64) × (Nat → Int64)} {G : Int → Int} {E : Int × Int} {x y : Int64} {Pr : Int → Bool} (hr : rowP x y Pr) : ∀ iv : Int, 0 ≤ iv → iv ≤ 60 → m_Sem X 112 (3, [some (.inr (.inr (.long x))), none, some (.inr (.inr (.long y))), none, some (.inl iv)], [], mW C (S, P, K, F, B, G, E), 0, 0) (m_V (onfS (fstF Pr (91 - iv).toNat iv)) (mW C (S, P, K, F, B, G, E))) := by
  refine m_down 0 60 ?_ ?_
  · show m_Sem X 112 (3, [some (.inr (.inr (.long x))), none, some (.inr (.inr (.long y))), none, some (.inl 60)], [], mW C (S, P, K, F, B, G, E), 0, 0) _
    refine m_run 2 (ps' := (7, [some (.inr (.inr (.long x))), none, some (.inr (.inr (.long y))), none, some (.inl 60)], [.inl 60, .inl 60], mW C (S, P, K, F, B, G, E), 0, 0)) rfl ?_
    refine m_icmp rfl ⟨by omega, by omega⟩ ⟨by omega, by omega⟩ (fun (zc1 : 60 ≤ 60) => ?_) (fun (zc1 : ¬ 60 ≤ 60) => absurd zc1 (not_not_intro (by omega)))
    refine m_run 2 (ps' := (33, [some (.inr (.inr (.long x))), none, some (.inr (.inr (.long y))), none, some (.inl 0)], [], mW C (S, P, K, F, B, G, E), 0, 0)) rfl ?_
    refine m_weak [some (.inr (.inr (.long x))), none, some (.inr (.inr (.long y))), none, some (.inl 0)] ⟨rfl, ⟨rfl, ⟨rfl, trivial⟩⟩⟩ ?_
    exact e_lo2 hr 0 (by omega) (by omega)
  · intro iv hi1 hi2 ih 
    refine m_run 2 (ps' := (7, [some (.inr (.inr (.long x))), none, some (.inr (.inr (.long y))), none, some (.inl iv)], [.inl 60, .inl iv], mW C (S, P, K, F, B, G, E), 0, 0)) rfl ?_
    refine m_icmp rfl ⟨by omega, by omega⟩ ⟨by omega, by omega⟩ (fun (zc1 : 60 ≤ iv) => absurd zc1 (by omega)) (fun (zc1 : ¬ 60 ≤ iv) => ?_)
    refine m_run 7 (ps' := (18, [some (.inr (.inr (.long x))), none, some (.inr (.inr (.long y))), none, some (.inl iv)], [.inl ((lg_cmp ((x >>> ((Int32.ofInt iv).toInt64 &&& 63)) &&& (Int64.ofNat 1)) (Int64.ofNat 1)).toInt)], mW C (S, P, K, F, B, G, E), 0, 0)) rfl ?_
    refine m_if rfl (lgc_R _ _) (fun (zc2 : ¬ (lg_cmp ((x >>> ((Int32.ofInt iv).toInt64 &&& 63)) &&& (Int64.ofNat 1)) (Int64.ofNat 1)).toInt = 0) => ?_) (fun (zc2 : ¬ ¬ (lg_cmp ((x >>> ((Int32.ofInt iv).toInt64 &&& 63)) &&& (Int64.ofNat 1)) (Int64.ofNat 1)).toInt = 0) => ?_)
    · refine m_run 2 (ps' := (3, [some (.inr (.inr (.long x))), none, some (.inr (.inr (.long y))), none, some (.inl (iv + 1))], [], mW C (S, P, K, F, B, G, E), 0, 0)) rfl ?_
      refine m_weak [some (.inr (.inr (.long x))), none, some (.inr (.inr (.long y))), none, some (.inl (iv + 1))] ⟨rfl, ⟨rfl, ⟨rfl, trivial⟩⟩⟩ ?_
      have z9 := fun h9 => zc2 ((lgc_bit x hi1 (by omega)).mpr h9)
      rw [rowP_lo hr hi1 hi2] at z9
      rw [fst1_f hi2 (Bool.eq_false_iff.mpr z9)]
      exact ih
    · replace zc2 : (lg_cmp ((x >>> ((Int32.ofInt iv).toInt64 &&& 63)) &&& (Int64.ofNat 1)) (Int64.ofNat 1)).toInt = 0 := Decidable.not_not.mp zc2
      refine m_run 1 (ps' := (23, [some (.inr (.inr (.long x))), none, some (.inr (.inr (.long y))), none, some (.inl iv)], [.inl iv], mW C (S, P, K, F, B, G, E), 0, 0)) rfl ?_
      exact m_ret1 rfl (Or.inl rfl) rfl (m_Vi (by have z9 := (lgc_bit x hi1 (by omega)).mp zc2; rw [rowP_lo hr hi1 hi2] at z9; rw [fst1_t hi2 z9]; unfold onfS; rw [if_neg (by omega)]))
set_option maxHeartbeats 4000000 in
set_option maxRecDepth 100000 in
theorem d_low {X : Nat × Nat × (Nat → Int32)} {C : CS} {S : Int → Int} {P K : TS} {F : Int × Int × Int} {B : (Nat → Int64) × (Nat → Int64)} {G : Int → Int} {E : Int × Int} {x y : Int64} {Pr : Int → Bool} (hr : rowP x y Pr) : m_Run X 112 [.inr (.inr (.long x)), .inr (.inr (.long y))] (mW C (S, P, K, F, B, G, E)) (m_V (lowP Pr) (mW C (S, P, K, F, B, G, E))) := by
  show m_Sem X 112 (0, [some (.inr (.inr (.long x))), none, some (.inr (.inr (.long y))), none, none], [], mW C (S, P, K, F, B, G, E), 0, 0) _
  refine m_run 2 (ps' := (3, [some (.inr (.inr (.long x))), none, some (.inr (.inr (.long y))), none, some (.inl 0)], [], mW C (S, P, K, F, B, G, E), 0, 0)) rfl ?_
  refine m_weak [some (.inr (.inr (.long x))), none, some (.inr (.inr (.long y))), none, some (.inl 0)] ⟨rfl, ⟨rfl, ⟨rfl, trivial⟩⟩⟩ ?_
  exact e_lo1 hr 0 (by omega) (by omega)
theorem lowP_in (P : Int → Bool) : lowP P = -1000004 ∨ (0 ≤ lowP P ∧ lowP P < 91) := by
  unfold lowP onfS
  rcases fst_in (p := P) 91 0 with h | ⟨h1, h2, -⟩
  · rw [h]; exact Or.inl rfl
  · rw [if_neg (by omega)]; exact Or.inr ⟨h1, by omega⟩
theorem one_A {x y : Int64} {P : Int → Bool} (h : rowP x y P) (hx : x = Int64.ofNat 0) (hy : y = Int64.ofNat 0) : ¬ cnP P 91 0 = 1 := by
  have h1 := (bits_zero (m := 60) (by omega) h.1).mp hx
  have h2 := (bits_zero (P := fun k => P (60 + k)) (m := 31) (by omega) h.2).mp hy
  rw [row_cnt]; omega
theorem one_B {x y : Int64} {P : Int → Bool} (h : rowP x y P) (hx : x = Int64.ofNat 0) (hy : ¬ y = Int64.ofNat 0) (hz : ¬ y &&& (y - Int64.ofNat 1) = Int64.ofNat 0) : ¬ cnP P 91 0 = 1 := by
  have h1 := (bits_zero (m := 60) (by omega) h.1).mp hx
  have h2 := mt (bits_one (P := fun k => P (60 + k)) (m := 31) (by omega) h.2).mpr (fun h9 => hz h9.2)
  rw [row_cnt]; omega
theorem one_C {x y : Int64} {P : Int → Bool} (h : rowP x y P) (hx : x = Int64.ofNat 0) (hy : ¬ y = Int64.ofNat 0) (hz : y &&& (y - Int64.ofNat 1) = Int64.ofNat 0) : cnP P 91 0 = 1 := by
  have h1 := (bits_zero (m := 60) (by omega) h.1).mp hx
  have h2 := (bits_one (P := fun k => P (60 + k)) (m := 31) (by omega) h.2).mp ⟨hy, hz⟩
  rw [row_cnt]; omega
theorem one_D {x y : Int64} {P : Int → Bool} (h : rowP x y P) (hx : ¬ x = Int64.ofNat 0) (hy : ¬ y = Int64.ofNat 0) : ¬ cnP P 91 0 = 1 := by
  have h1 := mt (bits_zero (m := 60) (by omega) h.1).mpr hx
  have h2 := mt (bits_zero (P := fun k => P (60 + k)) (m := 31) (by omega) h.2).mpr hy
  have h3 := (cnP_in P 60 0).1
  have h4 := (cnP_in (fun k => P (60 + k)) 31 0).1
  rw [row_cnt]; omega
theorem one_E {x y : Int64} {P : Int → Bool} (h : rowP x y P) (hx : ¬ x = Int64.ofNat 0) (hy : y = Int64.ofNat 0) (hz : ¬ x &&& (x - Int64.ofNat 1) = Int64.ofNat 0) : ¬ cnP P 91 0 = 1 := by
  have h1 := mt (bits_one (m := 60) (by omega) h.1).mpr (fun h9 => hz h9.2)
  have h2 := (bits_zero (P := fun k => P (60 + k)) (m := 31) (by omega) h.2).mp hy
  rw [row_cnt]; omega
theorem one_F {x y : Int64} {P : Int → Bool} (h : rowP x y P) (hx : ¬ x = Int64.ofNat 0) (hy : y = Int64.ofNat 0) (hz : x &&& (x - Int64.ofNat 1) = Int64.ofNat 0) : cnP P 91 0 = 1 := by
  have h1 := (bits_one (m := 60) (by omega) h.1).mp ⟨hx, hz⟩
  have h2 := (bits_zero (P := fun k => P (60 + k)) (m := 31) (by omega) h.2).mp hy
  rw [row_cnt]; omega
set_option maxHeartbeats 4000000 in
set_option maxRecDepth 100000 in
theorem d_one {X : Nat × Nat × (Nat → Int32)} {C : CS} {S : Int → Int} {P K : TS} {F : Int × Int × Int} {B : (Nat → Int64) × (Nat → Int64)} {G : Int → Int} {E : Int × Int} {x y : Int64} {Pr : Int → Bool} (hr : rowP x y Pr) : m_Run X 113 [.inr (.inr (.long x)), .inr (.inr (.long y))] (mW C (S, P, K, F, B, G, E)) (m_V (bI (decide (cnP Pr 91 0 = 1))) (mW C (S, P, K, F, B, G, E))) := by
  show m_Sem X 113 (0, [some (.inr (.inr (.long x))), none, some (.inr (.inr (.long y))), none], [], mW C (S, P, K, F, B, G, E), 0, 0) _
  refine m_run 3 (ps' := (3, [some (.inr (.inr (.long x))), none, some (.inr (.inr (.long y))), none], [.inl ((lg_cmp x (Int64.ofNat 0)).toInt)], mW C (S, P, K, F, B, G, E), 0, 0)) rfl ?_
  refine m_if rfl (lgc_R _ _) (fun (zc1 : ¬ (lg_cmp x (Int64.ofNat 0)).toInt = 0) => ?_) (fun (zc1 : ¬ ¬ (lg_cmp x (Int64.ofNat 0)).toInt = 0) => ?_)
  · rw [lgc_0] at zc1
    refine m_run 3 (ps' := (33, [some (.inr (.inr (.long x))), none, some (.inr (.inr (.long y))), none], [.inl ((lg_cmp y (Int64.ofNat 0)).toInt)], mW C (S, P, K, F, B, G, E), 0, 0)) rfl ?_
    refine m_if rfl (lgc_R _ _) (fun (zc2 : ¬ (lg_cmp y (Int64.ofNat 0)).toInt = 0) => ?_) (fun (zc2 : ¬ ¬ (lg_cmp y (Int64.ofNat 0)).toInt = 0) => ?_)
    · rw [lgc_0] at zc2
      refine m_run 1 (ps' := (51, [some (.inr (.inr (.long x))), none, some (.inr (.inr (.long y))), none], [.inl 0], mW C (S, P, K, F, B, G, E), 0, 0)) rfl ?_
      exact m_ret1 rfl (Or.inr ⟨rfl, Or.inl rfl⟩) rfl (m_Vb (b0 (decide_eq_false (by first | exact one_A hr zc1 zc2 | exact one_D hr zc1 zc2 | exact one_B hr zc1 zc2 zc3 | exact one_E hr zc1 zc2 zc3))))
    · replace zc2 : (lg_cmp y (Int64.ofNat 0)).toInt = 0 := Decidable.not_not.mp zc2
      rw [lgc_0] at zc2
      refine m_run 7 (ps' := (43, [some (.inr (.inr (.long x))), none, some (.inr (.inr (.long y))), none], [.inl ((lg_cmp (x &&& (x - (Int64.ofNat 1))) (Int64.ofNat 0)).toInt)], mW C (S, P, K, F, B, G, E), 0, 0)) rfl ?_
      refine m_if rfl (lgc_R _ _) (fun (zc3 : ¬ (lg_cmp (x &&& (x - (Int64.ofNat 1))) (Int64.ofNat 0)).toInt = 0) => ?_) (fun (zc3 : ¬ ¬ (lg_cmp (x &&& (x - (Int64.ofNat 1))) (Int64.ofNat 0)).toInt = 0) => ?_)
      · rw [lgc_0] at zc3
        refine m_run 1 (ps' := (51, [some (.inr (.inr (.long x))), none, some (.inr (.inr (.long y))), none], [.inl 0], mW C (S, P, K, F, B, G, E), 0, 0)) rfl ?_
        exact m_ret1 rfl (Or.inr ⟨rfl, Or.inl rfl⟩) rfl (m_Vb (b0 (decide_eq_false (by first | exact one_A hr zc1 zc2 | exact one_D hr zc1 zc2 | exact one_B hr zc1 zc2 zc3 | exact one_E hr zc1 zc2 zc3))))
      · replace zc3 : (lg_cmp (x &&& (x - (Int64.ofNat 1))) (Int64.ofNat 0)).toInt = 0 := Decidable.not_not.mp zc3
        rw [lgc_0] at zc3
        refine m_run 2 (ps' := (51, [some (.inr (.inr (.long x))), none, some (.inr (.inr (.long y))), none], [.inl 1], mW C (S, P, K, F, B, G, E), 0, 0)) rfl ?_
        exact m_ret1 rfl (Or.inr ⟨rfl, Or.inr rfl⟩) rfl (m_Vb (b1 (decide_eq_true (by first | exact one_C hr zc1 zc2 zc3 | exact one_F hr zc1 zc2 zc3))))
  · replace zc1 : (lg_cmp x (Int64.ofNat 0)).toInt = 0 := Decidable.not_not.mp zc1
    rw [lgc_0] at zc1
    refine m_run 3 (ps' := (9, [some (.inr (.inr (.long x))), none, some (.inr (.inr (.long y))), none], [.inl ((lg_cmp y (Int64.ofNat 0)).toInt)], mW C (S, P, K, F, B, G, E), 0, 0)) rfl ?_
    refine m_if rfl (lgc_R _ _) (fun (zc2 : (lg_cmp y (Int64.ofNat 0)).toInt = 0) => ?_) (fun (zc2 : ¬ (lg_cmp y (Int64.ofNat 0)).toInt = 0) => ?_)
    · rw [lgc_0] at zc2
      refine m_run 2 (ps' := (51, [some (.inr (.inr (.long x))), none, some (.inr (.inr (.long y))), none], [.inl 0], mW C (S, P, K, F, B, G, E), 0, 0)) rfl ?_
      exact m_ret1 rfl (Or.inr ⟨rfl, Or.inl rfl⟩) rfl (m_Vb (b0 (decide_eq_false (by first | exact one_A hr zc1 zc2 | exact one_D hr zc1 zc2 | exact one_B hr zc1 zc2 zc3 | exact one_E hr zc1 zc2 zc3))))
    · rw [lgc_0] at zc2
      refine m_run 7 (ps' := (19, [some (.inr (.inr (.long x))), none, some (.inr (.inr (.long y))), none], [.inl ((lg_cmp (y &&& (y - (Int64.ofNat 1))) (Int64.ofNat 0)).toInt)], mW C (S, P, K, F, B, G, E), 0, 0)) rfl ?_
      refine m_if rfl (lgc_R _ _) (fun (zc3 : ¬ (lg_cmp (y &&& (y - (Int64.ofNat 1))) (Int64.ofNat 0)).toInt = 0) => ?_) (fun (zc3 : ¬ ¬ (lg_cmp (y &&& (y - (Int64.ofNat 1))) (Int64.ofNat 0)).toInt = 0) => ?_)
      · rw [lgc_0] at zc3
        refine m_run 2 (ps' := (51, [some (.inr (.inr (.long x))), none, some (.inr (.inr (.long y))), none], [.inl 0], mW C (S, P, K, F, B, G, E), 0, 0)) rfl ?_
        exact m_ret1 rfl (Or.inr ⟨rfl, Or.inl rfl⟩) rfl (m_Vb (b0 (decide_eq_false (by first | exact one_A hr zc1 zc2 | exact one_D hr zc1 zc2 | exact one_B hr zc1 zc2 zc3 | exact one_E hr zc1 zc2 zc3))))
      · replace zc3 : (lg_cmp (y &&& (y - (Int64.ofNat 1))) (Int64.ofNat 0)).toInt = 0 := Decidable.not_not.mp zc3
        rw [lgc_0] at zc3
        refine m_run 2 (ps' := (51, [some (.inr (.inr (.long x))), none, some (.inr (.inr (.long y))), none], [.inl 1], mW C (S, P, K, F, B, G, E), 0, 0)) rfl ?_
        exact m_ret1 rfl (Or.inr ⟨rfl, Or.inr rfl⟩) rfl (m_Vb (b1 (decide_eq_true (by first | exact one_C hr zc1 zc2 zc3 | exact one_F hr zc1 zc2 zc3))))
set_option maxHeartbeats 4000000 in
set_option maxRecDepth 100000 in
theorem d_both {X : Nat × Nat × (Nat → Int32)} {C : CS} {S : Int → Int} {P K : TS} {F : Int × Int × Int} {B : (Nat → Int64) × (Nat → Int64)} {G : Int → Int} {E : Int × Int} {a b : Int} {Pa Pb : Int → Bool} (ha : 0 ≤ a) (ha2 : a < 182) (hb : 0 ≤ b) (hb2 : b < 182) (ra : rowP (B.1 a.toNat) (B.2 a.toNat) Pa) (rb : rowP (B.1 b.toNat) (B.2 b.toNat) Pb) : m_Run X 114 [.inr (.inl 13), .inl a, .inl b] (mW C (S, P, K, F, B, G, E)) (m_V (lowP (fun j => Pa j && Pb j)) (mW C (S, P, K, F, B, G, E))) := by
  show m_Sem X 114 (0, [some (.inr (.inl 13)), some (.inl a), some (.inl b)], [], mW C (S, P, K, F, B, G, E), 0, 0) _
  refine m_run 3 (ps' := (5, [some (.inr (.inl 13)), some (.inl a), some (.inl b)], [.inl a, .inr (.inl 17)], mW C (S, P, K, F, B, G, E), 0, 0)) rfl ?_
  refine m_lald rfl rfl (by omega) (by omega) (by decide) ?_
  refine m_run 3 (ps' := (11, [some (.inr (.inl 13)), some (.inl a), some (.inl b)], [.inl b, .inr (.inl 17), .inr (.inr (.long (B.1 (a).toNat)))], mW C (S, P, K, F, B, G, E), 0, 0)) rfl ?_
  refine m_lald rfl rfl (by omega) (by omega) (by decide) ?_
  refine m_run 4 (ps' := (18, [some (.inr (.inl 13)), some (.inl a), some (.inl b)], [.inl a, .inr (.inl 18), .inr (.inr (.long ((B.1 (a).toNat) &&& (B.1 (b).toNat))))], mW C (S, P, K, F, B, G, E), 0, 0)) rfl ?_
  refine m_lald rfl rfl (by omega) (by omega) (by decide) ?_
  refine m_run 3 (ps' := (24, [some (.inr (.inl 13)), some (.inl a), some (.inl b)], [.inl b, .inr (.inl 18), .inr (.inr (.long (B.2 (a).toNat))), .inr (.inr (.long ((B.1 (a).toNat) &&& (B.1 (b).toNat))))], mW C (S, P, K, F, B, G, E), 0, 0)) rfl ?_
  refine m_lald rfl rfl (by omega) (by omega) (by decide) ?_
  refine m_run 1 (ps' := (26, [some (.inr (.inl 13)), some (.inl a), some (.inl b)], [.inr (.inr (.long ((B.2 (a).toNat) &&& (B.2 (b).toNat)))), .inr (.inr (.long ((B.1 (a).toNat) &&& (B.1 (b).toNat))))], mW C (S, P, K, F, B, G, E), 0, 0)) rfl ?_
  refine m_callSF [.inr (.inr (.long ((B.1 (a).toNat) &&& (B.1 (b).toNat)))), .inr (.inr (.long ((B.2 (a).toNat) &&& (B.2 (b).toNat))))] [] rfl rfl rfl (d_low (rowP_and ra rb)) ?_
  have zt1 := lowP_in (fun j => Pa j && Pb j)
  show m_Sem X 114 (29, [some (.inr (.inl 13)), some (.inl a), some (.inl b)], [.inl (lowP (fun j => Pa j && Pb j))], mW C (S, P, K, F, B, G, E), 0, 0) _
  exact m_ret1 rfl (Or.inl rfl) rfl (m_Vi rfl)
def lnM (n : Int) (tb : Int → Int → Int) (p q : Int) : Int := lowP (fun j => ptR n tb p j && ptR n tb q j)
def mtM (n : Int) (tb : Int → Int → Int) (l m : Int) : Int := lowP (fun j => lnR n tb l j && lnR n tb m j)
def olM (n : Int) (tb : Int → Int → Int) (p q r : Int) : Bool := decide (0 ≤ lowP (fun j => (ptR n tb p j && ptR n tb q j) && ptR n tb r j))
set_option maxHeartbeats 4000000 in
set_option maxRecDepth 100000 in
theorem d_ln {X : Nat × Nat × (Nat → Int32)} {C : CS} {S : Int → Int} {P K : TS} {F : Int × Int × Int} {B : (Nat → Int64) × (Nat → Int64)} {G : Int → Int} {E : Int × Int} {n : Int} {tb : Int → Int → Int} {a b : Int} (hB : rowsB n tb B) (ha : 0 ≤ a) (ha2 : a < 91) (hb : 0 ≤ b) (hb2 : b < 91) : m_Run X 115 [.inr (.inl 13), .inl a, .inl b] (mW C (S, P, K, F, B, G, E)) (m_V (lnM n tb a b) (mW C (S, P, K, F, B, G, E))) := by
  show m_Sem X 115 (0, [some (.inr (.inl 13)), some (.inl a), some (.inl b)], [], mW C (S, P, K, F, B, G, E), 0, 0) _
  refine m_run 7 (ps' := (9, [some (.inr (.inl 13)), some (.inl a), some (.inl b)], [.inl (91 + b), .inl (91 + a), .inr (.inl 13)], mW C (S, P, K, F, B, G, E), 0, 0)) rfl ?_
  refine m_callVF [.inl (91 + a), .inl (91 + b)] [] rfl rfl ⟨_, rfl, rfl⟩ rfl rfl (d_both (a := (91 + a)) (b := (91 + b)) (by omega) (by omega) (by omega) (by omega) (hB a ha ha2).2 (hB b hb hb2).2) ?_
  show m_Sem X 115 (12, [some (.inr (.inl 13)), some (.inl a), some (.inl b)], [.inl (lnM n tb a b)], mW C (S, P, K, F, B, G, E), 0, 0) _
  exact m_ret1 rfl (Or.inl rfl) rfl (m_Vi rfl)
set_option maxHeartbeats 4000000 in
set_option maxRecDepth 100000 in
theorem d_mt {X : Nat × Nat × (Nat → Int32)} {C : CS} {S : Int → Int} {P K : TS} {F : Int × Int × Int} {B : (Nat → Int64) × (Nat → Int64)} {G : Int → Int} {E : Int × Int} {n : Int} {tb : Int → Int → Int} {a b : Int} (hB : rowsB n tb B) (ha : 0 ≤ a) (ha2 : a < 91) (hb : 0 ≤ b) (hb2 : b < 91) : m_Run X 116 [.inr (.inl 13), .inl a, .inl b] (mW C (S, P, K, F, B, G, E)) (m_V (mtM n tb a b) (mW C (S, P, K, F, B, G, E))) := by
  show m_Sem X 116 (0, [some (.inr (.inl 13)), some (.inl a), some (.inl b)], [], mW C (S, P, K, F, B, G, E), 0, 0) _
  refine m_run 3 (ps' := (3, [some (.inr (.inl 13)), some (.inl a), some (.inl b)], [.inl b, .inl a, .inr (.inl 13)], mW C (S, P, K, F, B, G, E), 0, 0)) rfl ?_
  refine m_callVF [.inl a, .inl b] [] rfl rfl ⟨_, rfl, rfl⟩ rfl rfl (d_both (a := a) (b := b) (by omega) (by omega) (by omega) (by omega) (hB a ha ha2).1 (hB b hb hb2).1) ?_
  show m_Sem X 116 (6, [some (.inr (.inl 13)), some (.inl a), some (.inl b)], [.inl (mtM n tb a b)], mW C (S, P, K, F, B, G, E), 0, 0) _
  exact m_ret1 rfl (Or.inl rfl) rfl (m_Vi rfl)
set_option maxHeartbeats 4000000 in
set_option maxRecDepth 100000 in
theorem d_ol {X : Nat × Nat × (Nat → Int32)} {C : CS} {S : Int → Int} {P K : TS} {F : Int × Int × Int} {B : (Nat → Int64) × (Nat → Int64)} {G : Int → Int} {E : Int × Int} {n : Int} {tb : Int → Int → Int} {a b c : Int} (hB : rowsB n tb B) (ha : 0 ≤ a) (ha2 : a < 91) (hb : 0 ≤ b) (hb2 : b < 91) (hc : 0 ≤ c) (hc2 : c < 91) : m_Run X 124 [.inr (.inl 13), .inl a, .inl b, .inl c] (mW C (S, P, K, F, B, G, E)) (m_V (bI (olM n tb a b c)) (mW C (S, P, K, F, B, G, E))) := by
  show m_Sem X 124 (0, [some (.inr (.inl 13)), some (.inl a), some (.inl b), some (.inl c)], [], mW C (S, P, K, F, B, G, E), 0, 0) _
  refine m_run 5 (ps' := (8, [some (.inr (.inl 13)), some (.inl a), some (.inl b), some (.inl c)], [.inl (91 + a), .inr (.inl 17)], mW C (S, P, K, F, B, G, E), 0, 0)) rfl ?_
  refine m_lald rfl rfl (by omega) (by omega) (by decide) ?_
  refine m_run 5 (ps' := (17, [some (.inr (.inl 13)), some (.inl a), some (.inl b), some (.inl c)], [.inl (91 + b), .inr (.inl 17), .inr (.inr (.long (B.1 ((91 + a)).toNat)))], mW C (S, P, K, F, B, G, E), 0, 0)) rfl ?_
  refine m_lald rfl rfl (by omega) (by omega) (by decide) ?_
  refine m_run 6 (ps' := (27, [some (.inr (.inl 13)), some (.inl a), some (.inl b), some (.inl c)], [.inl (91 + c), .inr (.inl 17), .inr (.inr (.long ((B.1 ((91 + a)).toNat) &&& (B.1 ((91 + b)).toNat))))], mW C (S, P, K, F, B, G, E), 0, 0)) rfl ?_
  refine m_lald rfl rfl (by omega) (by omega) (by decide) ?_
  refine m_run 6 (ps' := (37, [some (.inr (.inl 13)), some (.inl a), some (.inl b), some (.inl c)], [.inl (91 + a), .inr (.inl 18), .inr (.inr (.long (((B.1 ((91 + a)).toNat) &&& (B.1 ((91 + b)).toNat)) &&& (B.1 ((91 + c)).toNat))))], mW C (S, P, K, F, B, G, E), 0, 0)) rfl ?_
  refine m_lald rfl rfl (by omega) (by omega) (by decide) ?_
  refine m_run 5 (ps' := (46, [some (.inr (.inl 13)), some (.inl a), some (.inl b), some (.inl c)], [.inl (91 + b), .inr (.inl 18), .inr (.inr (.long (B.2 ((91 + a)).toNat))), .inr (.inr (.long (((B.1 ((91 + a)).toNat) &&& (B.1 ((91 + b)).toNat)) &&& (B.1 ((91 + c)).toNat))))], mW C (S, P, K, F, B, G, E), 0, 0)) rfl ?_
  refine m_lald rfl rfl (by omega) (by omega) (by decide) ?_
  refine m_run 6 (ps' := (56, [some (.inr (.inl 13)), some (.inl a), some (.inl b), some (.inl c)], [.inl (91 + c), .inr (.inl 18), .inr (.inr (.long ((B.2 ((91 + a)).toNat) &&& (B.2 ((91 + b)).toNat)))), .inr (.inr (.long (((B.1 ((91 + a)).toNat) &&& (B.1 ((91 + b)).toNat)) &&& (B.1 ((91 + c)).toNat))))], mW C (S, P, K, F, B, G, E), 0, 0)) rfl ?_
  refine m_lald rfl rfl (by omega) (by omega) (by decide) ?_
  refine m_run 1 (ps' := (58, [some (.inr (.inl 13)), some (.inl a), some (.inl b), some (.inl c)], [.inr (.inr (.long (((B.2 ((91 + a)).toNat) &&& (B.2 ((91 + b)).toNat)) &&& (B.2 ((91 + c)).toNat)))), .inr (.inr (.long (((B.1 ((91 + a)).toNat) &&& (B.1 ((91 + b)).toNat)) &&& (B.1 ((91 + c)).toNat))))], mW C (S, P, K, F, B, G, E), 0, 0)) rfl ?_
  refine m_callSF [.inr (.inr (.long (((B.1 ((91 + a)).toNat) &&& (B.1 ((91 + b)).toNat)) &&& (B.1 ((91 + c)).toNat)))), .inr (.inr (.long (((B.2 ((91 + a)).toNat) &&& (B.2 ((91 + b)).toNat)) &&& (B.2 ((91 + c)).toNat))))] [] rfl rfl rfl (d_low (rowP_and (rowP_and (hB a ha ha2).2 (hB b hb hb2).2) (hB c hc hc2).2)) ?_
  have zt1 := lowP_in (fun j => (ptR n tb a j && ptR n tb b j) && ptR n tb c j)
  show m_Sem X 124 (61, [some (.inr (.inl 13)), some (.inl a), some (.inl b), some (.inl c)], [.inl (lowP (fun j => (ptR n tb a j && ptR n tb b j) && ptR n tb c j))], mW C (S, P, K, F, B, G, E), 0, 0) _
  refine m_if rfl ⟨by omega, by omega⟩ (fun (zc1 : (lowP (fun j => (ptR n tb a j && ptR n tb b j) && ptR n tb c j)) < 0) => ?_) (fun (zc1 : ¬ (lowP (fun j => (ptR n tb a j && ptR n tb b j) && ptR n tb c j)) < 0) => ?_)
  · refine m_run 1 (ps' := (69, [some (.inr (.inl 13)), some (.inl a), some (.inl b), some (.inl c)], [.inl 0], mW C (S, P, K, F, B, G, E), 0, 0)) rfl ?_
    exact m_ret1 rfl (Or.inr ⟨rfl, Or.inl rfl⟩) rfl (m_Vb (b0 (decide_eq_false (by omega))))
  · refine m_run 2 (ps' := (69, [some (.inr (.inl 13)), some (.inl a), some (.inl b), some (.inl c)], [.inl 1], mW C (S, P, K, F, B, G, E), 0, 0)) rfl ?_
    exact m_ret1 rfl (Or.inr ⟨rfl, Or.inr rfl⟩) rfl (m_Vb (b1 (decide_eq_true (by omega))))
def wrF (Rw : Int → Int → Bool) (k j : Int) : Int := if cnP (fun x => Rw k x && Rw j x) 91 0 = 1 then 0 else 1
def wrR (Rw : Int → Int → Bool) (k : Int) : Int := sumF (wrF Rw k) k.toNat 0
def wrS (n : Int) (Rw : Int → Int → Bool) : Int := sumF (wrR Rw) (NP n).toNat 0
set_option maxHeartbeats 4000000 in
set_option maxRecDepth 100000 in
theorem e_wrI {X : Nat × Nat × (Nat → Int32)} {C : CS} {S : Int → Int} {P K : TS} {F : Int × Int × Int} {B : (Nat → Int64) × (Nat → Int64)} {G : Int → Int} {E : Int × Int} {n : Int} {fr : Int} {Rw : Int → Int → Bool} {Q : Option mPV → mPW → Prop} (hn : okN n) (hs0 : S 0 = n) (hf0 : 0 ≤ fr) (hf1 : fr ≤ 91) (hw : ∀ j : Int, 0 ≤ j → j < 91 → rowP (B.1 (fr + j).toNat) (B.2 (fr + j).toNat) (Rw j)) {j1 v : Int} (hj : 0 ≤ j1) (hj2 : j1 < NP n) (K9 : m_Sem X 117 (10, [some (.inr (.inl 13)), some (.inl fr), some (.inl v), some (.inl (NP n)), some (.inl (j1 + 1)), none], [], mW C (S, P, K, F, B, G, E), 0, 0) Q) : ∀ j2 : Int, 0 ≤ j2 → j2 ≤ j1 → ∀ (u : Int) (hu : u + sumF (wrF Rw j1) (j1 - j2).toNat j2 = v), m_Sem X 117 (19, [some (.inr (.inl 13)), some (.inl fr), some (.inl u), some (.inl (NP n)), some (.inl j1), some (.inl j2)], [], mW C (S, P, K, F, B, G, E), 0, 0) (Q) := by
  have hl := okN_lo hn
  have hq := sq_b hn
  have hnp : NP n = n * n + n + 1 := rfl
  refine m_down 0 j1 ?_ ?_
  · intro u hu
    rw [sum_end] at hu
    have hu : u = v := by omega
    subst hu
    show m_Sem X 117 (19, [some (.inr (.inl 13)), some (.inl fr), some (.inl u), some (.inl (NP n)), some (.inl j1), some (.inl j1)], [], mW C (S, P, K, F, B, G, E), 0, 0) _
    refine m_run 2 (ps' := (23, [some (.inr (.inl 13)), some (.inl fr), some (.inl u), some (.inl (NP n)), some (.inl j1), some (.inl j1)], [.inl j1, .inl j1], mW C (S, P, K, F, B, G, E), 0, 0)) rfl ?_
    refine m_icmp rfl ⟨by omega, by omega⟩ ⟨by omega, by omega⟩ (fun (zc1 : j1 ≤ j1) => ?_) (fun (zc1 : ¬ j1 ≤ j1) => absurd zc1 (not_not_intro (by omega)))
    refine m_run 2 (ps' := (10, [some (.inr (.inl 13)), some (.inl fr), some (.inl u), some (.inl (NP n)), some (.inl (j1 + 1)), some (.inl j1)], [], mW C (S, P, K, F, B, G, E), 0, 0)) rfl ?_
    refine m_weak [some (.inr (.inl 13)), some (.inl fr), some (.inl u), some (.inl (NP n)), some (.inl (j1 + 1)), none] ⟨rfl, ⟨rfl, ⟨rfl, ⟨rfl, ⟨rfl, trivial⟩⟩⟩⟩⟩ ?_
    exact K9
  · intro j2 hi1 hi2 ih u hu
    rw [sum_step hi2] at hu
    refine m_run 2 (ps' := (23, [some (.inr (.inl 13)), some (.inl fr), some (.inl u), some (.inl (NP n)), some (.inl j1), some (.inl j2)], [.inl j1, .inl j2], mW C (S, P, K, F, B, G, E), 0, 0)) rfl ?_
    refine m_icmp rfl ⟨by omega, by omega⟩ ⟨by omega, by omega⟩ (fun (zc1 : j1 ≤ j2) => absurd zc1 (by omega)) (fun (zc1 : ¬ j1 ≤ j2) => ?_)
    refine m_run 6 (ps' := (35, [some (.inr (.inl 13)), some (.inl fr), some (.inl u), some (.inl (NP n)), some (.inl j1), some (.inl j2)], [.inl (fr + j1), .inr (.inl 17), .inl u], mW C (S, P, K, F, B, G, E), 0, 0)) rfl ?_
    refine m_lald rfl rfl (by omega) (by omega) (by decide) ?_
    refine m_run 5 (ps' := (44, [some (.inr (.inl 13)), some (.inl fr), some (.inl u), some (.inl (NP n)), some (.inl j1), some (.inl j2)], [.inl (fr + j2), .inr (.inl 17), .inr (.inr (.long (B.1 ((fr + j1)).toNat))), .inl u], mW C (S, P, K, F, B, G, E), 0, 0)) rfl ?_
    refine m_lald rfl rfl (by omega) (by omega) (by decide) ?_
    refine m_run 6 (ps' := (54, [some (.inr (.inl 13)), some (.inl fr), some (.inl u), some (.inl (NP n)), some (.inl j1), some (.inl j2)], [.inl (fr + j1), .inr (.inl 18), .inr (.inr (.long ((B.1 ((fr + j1)).toNat) &&& (B.1 ((fr + j2)).toNat)))), .inl u], mW C (S, P, K, F, B, G, E), 0, 0)) rfl ?_
    refine m_lald rfl rfl (by omega) (by omega) (by decide) ?_
    refine m_run 5 (ps' := (63, [some (.inr (.inl 13)), some (.inl fr), some (.inl u), some (.inl (NP n)), some (.inl j1), some (.inl j2)], [.inl (fr + j2), .inr (.inl 18), .inr (.inr (.long (B.2 ((fr + j1)).toNat))), .inr (.inr (.long ((B.1 ((fr + j1)).toNat) &&& (B.1 ((fr + j2)).toNat)))), .inl u], mW C (S, P, K, F, B, G, E), 0, 0)) rfl ?_
    refine m_lald rfl rfl (by omega) (by omega) (by decide) ?_
    refine m_run 1 (ps' := (65, [some (.inr (.inl 13)), some (.inl fr), some (.inl u), some (.inl (NP n)), some (.inl j1), some (.inl j2)], [.inr (.inr (.long ((B.2 ((fr + j1)).toNat) &&& (B.2 ((fr + j2)).toNat)))), .inr (.inr (.long ((B.1 ((fr + j1)).toNat) &&& (B.1 ((fr + j2)).toNat)))), .inl u], mW C (S, P, K, F, B, G, E), 0, 0)) rfl ?_
    refine m_callSF [.inr (.inr (.long ((B.1 ((fr + j1)).toNat) &&& (B.1 ((fr + j2)).toNat)))), .inr (.inr (.long ((B.2 ((fr + j1)).toNat) &&& (B.2 ((fr + j2)).toNat))))] [.inl u] rfl rfl rfl (d_one (rowP_and (hw j1 hj (by omega)) (hw j2 hi1 (by omega)))) ?_
    show m_Sem X 117 (68, [some (.inr (.inl 13)), some (.inl fr), some (.inl u), some (.inl (NP n)), some (.inl j1), some (.inl j2)], [.inl (bI (decide (cnP (fun x => Rw j1 x && Rw j2 x) 91 0 = 1))), .inl u], mW C (S, P, K, F, B, G, E), 0, 0) _
    refine m_if rfl (bI_R (decide (cnP (fun x => Rw j1 x && Rw j2 x) 91 0 = 1))) (fun (zc2 : (bI (decide (cnP (fun x => Rw j1 x && Rw j2 x) 91 0 = 1))) = 0) => ?_) (fun (zc2 : ¬ (bI (decide (cnP (fun x => Rw j1 x && Rw j2 x) 91 0 = 1))) = 0) => ?_)
    · replace zc2 : (decide (cnP (fun x => Rw j1 x && Rw j2 x) 91 0 = 1)) = false := bI_e0.mp zc2
      refine m_run 5 (ps' := (19, [some (.inr (.inl 13)), some (.inl fr), some (.inl (u + 1)), some (.inl (NP n)), some (.inl j1), some (.inl (j2 + 1))], [], mW C (S, P, K, F, B, G, E), 0, 0)) rfl ?_
      refine m_weak [some (.inr (.inl 13)), some (.inl fr), some (.inl (u + 1)), some (.inl (NP n)), some (.inl j1), some (.inl (j2 + 1))] ⟨rfl, ⟨rfl, ⟨rfl, ⟨rfl, ⟨rfl, ⟨rfl, trivial⟩⟩⟩⟩⟩⟩ ?_
      have h9 : wrF Rw j1 j2 = _ := if_neg (of_decide_eq_false zc2)
      rw [h9] at hu
      exact ih _ (by rw [← hu]; omega)
    · replace zc2 : (decide (cnP (fun x => Rw j1 x && Rw j2 x) 91 0 = 1)) = true := bI_n0.mp zc2
      refine m_run 6 (ps' := (19, [some (.inr (.inl 13)), some (.inl fr), some (.inl (u + 0)), some (.inl (NP n)), some (.inl j1), some (.inl (j2 + 1))], [], mW C (S, P, K, F, B, G, E), 0, 0)) rfl ?_
      refine m_weak [some (.inr (.inl 13)), some (.inl fr), some (.inl (u + 0)), some (.inl (NP n)), some (.inl j1), some (.inl (j2 + 1))] ⟨rfl, ⟨rfl, ⟨rfl, ⟨rfl, ⟨rfl, ⟨rfl, trivial⟩⟩⟩⟩⟩⟩ ?_
      have h9 : wrF Rw j1 j2 = _ := if_pos (of_decide_eq_true zc2)
      rw [h9] at hu
      exact ih _ (by rw [← hu]; omega)
set_option maxHeartbeats 4000000 in
set_option maxRecDepth 100000 in
theorem e_wrO {X : Nat × Nat × (Nat → Int32)} {C : CS} {S : Int → Int} {P K : TS} {F : Int × Int × Int} {B : (Nat → Int64) × (Nat → Int64)} {G : Int → Int} {E : Int × Int} {n : Int} {fr : Int} {Rw : Int → Int → Bool} {Q : Option mPV → mPW → Prop} (hn : okN n) (hs0 : S 0 = n) (hf0 : 0 ≤ fr) (hf1 : fr ≤ 91) (hw : ∀ j : Int, 0 ≤ j → j < 91 → rowP (B.1 (fr + j).toNat) (B.2 (fr + j).toNat) (Rw j)) {v : Int} (K9 : Q (some (.inl v)) (mW C (S, P, K, F, B, G, E))) : ∀ j1 : Int, 0 ≤ j1 → j1 ≤ (NP n) → ∀ (u : Int) (hu : u + sumF (wrR Rw) (NP n - j1).toNat j1 = v), m_Sem X 117 (10, [some (.inr (.inl 13)), some (.inl fr), some (.inl u), some (.inl (NP n)), some (.inl j1), none], [], mW C (S, P, K, F, B, G, E), 0, 0) (Q) := by
  have hl := okN_lo hn
  have hq := sq_b hn
  have hnp : NP n = n * n + n + 1 := rfl
  refine m_down 0 (NP n) ?_ ?_
  · intro u hu
    rw [sum_end] at hu
    have hu : u = v := by omega
    subst hu
    show m_Sem X 117 (10, [some (.inr (.inl 13)), some (.inl fr), some (.inl u), some (.inl (NP n)), some (.inl (NP n)), none], [], mW C (S, P, K, F, B, G, E), 0, 0) _
    refine m_run 2 (ps' := (13, [some (.inr (.inl 13)), some (.inl fr), some (.inl u), some (.inl (NP n)), some (.inl (NP n)), none], [.inl (NP n), .inl (NP n)], mW C (S, P, K, F, B, G, E), 0, 0)) rfl ?_
    refine m_icmp rfl ⟨by omega, by omega⟩ ⟨by omega, by omega⟩ (fun (zc1 : (NP n) ≤ (NP n)) => ?_) (fun (zc1 : ¬ (NP n) ≤ (NP n)) => absurd zc1 (not_not_intro (by omega)))
    refine m_run 1 (ps' := (91, [some (.inr (.inl 13)), some (.inl fr), some (.inl u), some (.inl (NP n)), some (.inl (NP n)), none], [.inl u], mW C (S, P, K, F, B, G, E), 0, 0)) rfl ?_
    exact m_ret1 rfl (Or.inl rfl) rfl K9
  · intro j1 hi1 hi2 ih u hu
    rw [sum_step hi2] at hu
    refine m_run 2 (ps' := (13, [some (.inr (.inl 13)), some (.inl fr), some (.inl u), some (.inl (NP n)), some (.inl j1), none], [.inl (NP n), .inl j1], mW C (S, P, K, F, B, G, E), 0, 0)) rfl ?_
    refine m_icmp rfl ⟨by omega, by omega⟩ ⟨by omega, by omega⟩ (fun (zc1 : (NP n) ≤ j1) => absurd zc1 (by omega)) (fun (zc1 : ¬ (NP n) ≤ j1) => ?_)
    refine m_run 2 (ps' := (19, [some (.inr (.inl 13)), some (.inl fr), some (.inl u), some (.inl (NP n)), some (.inl j1), some (.inl 0)], [], mW C (S, P, K, F, B, G, E), 0, 0)) rfl ?_
    refine m_weak [some (.inr (.inl 13)), some (.inl fr), some (.inl u), some (.inl (NP n)), some (.inl j1), some (.inl 0)] ⟨rfl, ⟨rfl, ⟨rfl, ⟨rfl, ⟨rfl, ⟨rfl, trivial⟩⟩⟩⟩⟩⟩ ?_
    exact e_wrI (v := u + wrR Rw j1) hn hs0 hf0 hf1 hw hi1 hi2 (ih _ (by rw [← hu]; omega)) 0 (by omega) (by omega) u (by rw [Int.sub_zero]; rfl)
set_option maxHeartbeats 4000000 in
set_option maxRecDepth 100000 in
theorem d_wr {X : Nat × Nat × (Nat → Int32)} {C : CS} {S : Int → Int} {P K : TS} {F : Int × Int × Int} {B : (Nat → Int64) × (Nat → Int64)} {G : Int → Int} {E : Int × Int} {n : Int} {fr : Int} {Rw : Int → Int → Bool} (hn : okN n) (hs0 : S 0 = n) (hf0 : 0 ≤ fr) (hf1 : fr ≤ 91) (hw : ∀ j : Int, 0 ≤ j → j < 91 → rowP (B.1 (fr + j).toNat) (B.2 (fr + j).toNat) (Rw j)) : m_Run X 117 [.inr (.inl 13), .inl fr] (mW C (S, P, K, F, B, G, E)) (m_V (wrS n Rw) (mW C (S, P, K, F, B, G, E))) := by
  have hl := okN_lo hn
  have hq := sq_b hn
  have hnp : NP n = n * n + n + 1 := rfl
  show m_Sem X 117 (0, [some (.inr (.inl 13)), some (.inl fr), none, none, none, none], [], mW C (S, P, K, F, B, G, E), 0, 0) _
  refine m_run 3 (ps' := (3, [some (.inr (.inl 13)), some (.inl fr), some (.inl 0), none, none, none], [.inr (.inl 13)], mW C (S, P, K, F, B, G, E), 0, 0)) rfl ?_
  refine m_callVF [] [] rfl rfl ⟨_, rfl, rfl⟩ rfl rfl (d_pts hs0) ?_
  show m_Sem X 117 (6, [some (.inr (.inl 13)), some (.inl fr), some (.inl 0), none, none, none], [.inl (NP n)], mW C (S, P, K, F, B, G, E), 0, 0) _
  refine m_run 3 (ps' := (10, [some (.inr (.inl 13)), some (.inl fr), some (.inl 0), some (.inl (NP n)), some (.inl 0), none], [], mW C (S, P, K, F, B, G, E), 0, 0)) rfl ?_
  refine m_weak [some (.inr (.inl 13)), some (.inl fr), some (.inl 0), some (.inl (NP n)), some (.inl 0), none] ⟨rfl, ⟨rfl, ⟨rfl, ⟨rfl, ⟨rfl, trivial⟩⟩⟩⟩⟩ ?_
  exact e_wrO (v := wrS n Rw) hn hs0 hf0 hf1 hw ⟨rfl, rfl⟩ 0 (by omega) (by omega) 0 (by rw [z_sub, Int.zero_add]; rfl)
theorem wrS_in (n : Int) (Rw : Int → Int → Bool) (hn : okN n) : 0 ≤ wrS n Rw ∧ wrS n Rw ≤ 8281 := by
  have hl := okN_lo hn
  have hq := sq_b hn
  have hnp : NP n = n * n + n + 1 := rfl
  have h := sum_bound (f := wrR Rw) (B := 91) (NP n).toNat 0 (fun j h1 h2 => by
    have h3 := sum_bound (f := wrF Rw j) (B := 1) j.toNat 0 (fun i _ _ => by unfold wrF; split <;> decide)
    show 0 ≤ sumF (wrF Rw j) j.toNat 0 ∧ sumF (wrF Rw j) j.toNat 0 ≤ 91
    omega)
  unfold wrS
  omega
def plM (n : Int) (tb : Int → Int → Int) : Bool := decide (wrS n (ptR n tb) = 0) && decide (wrS n (lnR n tb) = 0)
set_option maxHeartbeats 4000000 in
set_option maxRecDepth 100000 in
theorem d_pl {X : Nat × Nat × (Nat → Int32)} {C : CS} {n : Int} {S : Int → Int} {P K : TS} {F : Int × Int × Int} {B : (Nat → Int64) × (Nat → Int64)} {G : Int → Int} {E : Int × Int} {tb : Int → Int → Int} (hR : repM n S tb) : m_Run X 118 [.inr (.inl 13)] (mW C (S, P, K, F, B, G, E)) (fun r w => r = some (.inl (bI (plM n tb))) ∧ ∃ B2 : (Nat → Int64) × (Nat → Int64), w = mW C (S, P, K, F, B2, G, E) ∧ rowsB n tb B2) := by
  have hn := hR.1
  have hl := okN_lo hn
  have hs0 := hR.2.1
  have hq := sq_b hn
  have hnp : NP n = n * n + n + 1 := rfl
  show m_Sem X 118 (0, [some (.inr (.inl 13))], [], mW C (S, P, K, F, B, G, E), 0, 0) _
  refine m_run 1 (ps' := (1, [some (.inr (.inl 13))], [.inr (.inl 13)], mW C (S, P, K, F, B, G, E), 0, 0)) rfl ?_
  refine m_callV [] [] rfl rfl ⟨_, rfl, rfl⟩ rfl rfl (d_draw hR) (fun r_ w_ hq_ _ => ?_)
  obtain ⟨rfl, B2, rfl, hB2⟩ := hq_
  show m_Sem X 118 (4, [some (.inr (.inl 13))], [], mW C (S, P, K, F, B2, G, E), 0, 0) _
  refine m_run 2 (ps' := (7, [some (.inr (.inl 13))], [.inl 91, .inr (.inl 13)], mW C (S, P, K, F, B2, G, E), 0, 0)) rfl ?_
  refine m_callVF [.inl 91] [] rfl rfl ⟨_, rfl, rfl⟩ rfl rfl (d_wr (fr := 91) (Rw := ptR n tb) hn hs0 (by omega) (by omega) (fun j h1 h2 => (hB2 j h1 h2).2)) ?_
  have zt1 := wrS_in n (ptR n tb) hn
  show m_Sem X 118 (10, [some (.inr (.inl 13))], [.inl (wrS n (ptR n tb))], mW C (S, P, K, F, B2, G, E), 0, 0) _
  refine m_if rfl ⟨by omega, by omega⟩ (fun (zc1 : ¬ (wrS n (ptR n tb)) = 0) => ?_) (fun (zc1 : ¬ ¬ (wrS n (ptR n tb)) = 0) => ?_)
  · refine m_run 1 (ps' := (26, [some (.inr (.inl 13))], [.inl 0], mW C (S, P, K, F, B2, G, E), 0, 0)) rfl ?_
    exact m_ret1 rfl (Or.inr ⟨rfl, Or.inl rfl⟩) rfl (⟨congrArg (fun x => some (Sum.inl x)) (b0 (by unfold plM; first | rw [decide_eq_false zc1, Bool.false_and] | rw [decide_eq_false zc2, Bool.and_false])), B2, rfl, hB2⟩)
  · replace zc1 : (wrS n (ptR n tb)) = 0 := Decidable.not_not.mp zc1
    refine m_run 2 (ps' := (15, [some (.inr (.inl 13))], [.inl 0, .inr (.inl 13)], mW C (S, P, K, F, B2, G, E), 0, 0)) rfl ?_
    refine m_callVF [.inl 0] [] rfl rfl ⟨_, rfl, rfl⟩ rfl rfl (d_wr (fr := 0) (Rw := lnR n tb) hn hs0 (by omega) (by omega) (fun j h1 h2 => by rw [Int.zero_add]; exact (hB2 j h1 h2).1)) ?_
    have zt2 := wrS_in n (lnR n tb) hn
    show m_Sem X 118 (18, [some (.inr (.inl 13))], [.inl (wrS n (lnR n tb))], mW C (S, P, K, F, B2, G, E), 0, 0) _
    refine m_if rfl ⟨by omega, by omega⟩ (fun (zc2 : ¬ (wrS n (lnR n tb)) = 0) => ?_) (fun (zc2 : ¬ ¬ (wrS n (lnR n tb)) = 0) => ?_)
    · refine m_run 1 (ps' := (26, [some (.inr (.inl 13))], [.inl 0], mW C (S, P, K, F, B2, G, E), 0, 0)) rfl ?_
      exact m_ret1 rfl (Or.inr ⟨rfl, Or.inl rfl⟩) rfl (⟨congrArg (fun x => some (Sum.inl x)) (b0 (by unfold plM; first | rw [decide_eq_false zc1, Bool.false_and] | rw [decide_eq_false zc2, Bool.and_false])), B2, rfl, hB2⟩)
    · replace zc2 : (wrS n (lnR n tb)) = 0 := Decidable.not_not.mp zc2
      refine m_run 2 (ps' := (26, [some (.inr (.inl 13))], [.inl 1], mW C (S, P, K, F, B2, G, E), 0, 0)) rfl ?_
      exact m_ret1 rfl (Or.inr ⟨rfl, Or.inr rfl⟩) rfl (⟨congrArg (fun x => some (Sum.inl x)) (b1 (by unfold plM; rw [decide_eq_true zc1, decide_eq_true zc2]; rfl)), B2, rfl, hB2⟩)
def idxF (P : Int → Bool) : Nat → Int → Int → Int
  | 0, _, _ => -1
  | k + 1, i, m => if P i = true ∧ m = 0 then i else idxF P k (i + 1) (m - bI (P i))
theorem idx_end (P : Int → Bool) (n m : Int) : idxF P (n - n).toNat n m = -1 := by rw [nat_end]; rfl
theorem idx_t {P : Int → Bool} {n i m : Int} (h : i < n) (h1 : P i = true) (h2 : m = 0) : idxF P (n - i).toNat i m = i := by
  rw [nat_step h]
  exact if_pos ⟨h1, h2⟩
theorem idx_f {P : Int → Bool} {n i m : Int} (h : i < n) (h1 : ¬ (P i = true ∧ m = 0)) : idxF P (n - i).toNat i m = idxF P (n - (i + 1)).toNat (i + 1) (m - bI (P i)) := by
  rw [nat_step h]
  exact if_neg h1
def atM (P : Int → Bool) (m : Int) : Int := onfS (idxF P 91 0 m)
theorem idx_in (P : Int → Bool) : ∀ (k : Nat) (i m : Int), idxF P k i m = -1 ∨ (i ≤ idxF P k i m ∧ idxF P k i m < i + k)
  | 0, _, _ => Or.inl rfl
  | k + 1, i, m => by
    unfold idxF
    split
    · exact Or.inr ⟨by omega, by omega⟩
    · rcases idx_in P k (i + 1) (m - bI (P i)) with h | h
      · exact Or.inl h
      · exact Or.inr (by omega)
theorem atM_in (P : Int → Bool) (m : Int) : atM P m = -1000004 ∨ (0 ≤ atM P m ∧ atM P m < 91) := by
  unfold atM onfS
  rcases idx_in P 91 0 m with h | h
  · rw [h]; exact Or.inl rfl
  · rw [if_neg (by omega)]; exact Or.inr (by omega)
theorem bit_l2i {x : Int64} {b : Bool} (h : x = bif b then Int64.ofNat 1 else Int64.ofNat 0) : x.toInt32.toInt = bI b := by
  rw [h]
  cases b <;> decide
theorem bit_lgc {x : Int64} {b : Bool} (h : x = bif b then Int64.ofNat 1 else Int64.ofNat 0) : (lg_cmp x (Int64.ofNat 1)).toInt = 0 ↔ b = true := by
  rw [lgc_0, h]
  cases b
  · exact ⟨fun h => absurd h (by decide), fun h => by cases h⟩
  · exact ⟨fun _ => rfl, fun _ => rfl⟩
theorem shr_lo {x y : Int64} {P : Int → Bool} (h : rowP x y P) {k : Int} (h1 : 0 ≤ k) (h2 : k < 60) : ((x >>> ((Int32.ofInt k).toInt64 &&& 63)) &&& Int64.ofNat 1) = bif P k then Int64.ofNat 1 else Int64.ofNat 0 := by
  rw [sh_63 h1 (by omega), shr_bit x (by omega), rowP_lo h h1 h2]
theorem shr_hi {x y : Int64} {P : Int → Bool} (h : rowP x y P) {k : Int} (h1 : 60 ≤ k) (h2 : k < 91) : ((y >>> ((Int32.ofInt (k - 60)).toInt64 &&& 63)) &&& Int64.ofNat 1) = bif P k then Int64.ofNat 1 else Int64.ofNat 0 := by
  rw [sh_63 (by omega) (by omega), shr_bit y (by omega), rowP_hi h (by omega) (by omega), show 60 + (k - 60) = k by omega]
set_option maxHeartbeats 4000000 in
set_option maxRecDepth 100000 in
theorem e_ati {X : Nat × Nat × (Nat → Int32)} {C : CS} {S : Int → Int} {P K : TS} {F : Int × Int × Int} {B : (Nat → Int64) × (Nat → Int64)} {G : Int → Int} {E : Int × Int} {a x : Int} {Pa : Int → Bool} (ha : 0 ≤ a) (ha2 : a < 182) (ra : rowP (B.1 a.toNat) (B.2 a.toNat) Pa) {v : Int} : ∀ iv : Int, 0 ≤ iv → iv ≤ 91 → ∀ (m : Int) (hm : 0 - iv ≤ m) (hm2 : m < 2147483648) (hu : onfS (idxF Pa (91 - iv).toNat iv m) = v), m_Sem X 120 (5, [some (.inr (.inl 13)), some (.inl a), some (.inl x), some (.inl m), some (.inl iv), none, none], [], mW C (S, P, K, F, B, G, E), 0, 0) (m_V v (mW C (S, P, K, F, B, G, E))) := by
  refine m_down 0 91 ?_ ?_
  · intro m hm hm2 hu
    show m_Sem X 120 (5, [some (.inr (.inl 13)), some (.inl a), some (.inl x), some (.inl m), some (.inl 91), none, none], [], mW C (S, P, K, F, B, G, E), 0, 0) _
    refine m_run 2 (ps' := (9, [some (.inr (.inl 13)), some (.inl a), some (.inl x), some (.inl m), some (.inl 91), none, none], [.inl 91, .inl 91], mW C (S, P, K, F, B, G, E), 0, 0)) rfl ?_
    refine m_icmp rfl ⟨by omega, by omega⟩ ⟨by omega, by omega⟩ (fun (zc1 : 91 ≤ 91) => ?_) (fun (zc1 : ¬ 91 ≤ 91) => absurd zc1 (not_not_intro (by omega)))
    refine m_run 1 (ps' := (77, [some (.inr (.inl 13)), some (.inl a), some (.inl x), some (.inl m), some (.inl 91), none, none], [.inl (-1000004)], mW C (S, P, K, F, B, G, E), 0, 0)) rfl ?_
    exact m_ret1 rfl (Or.inl rfl) rfl (m_Vi (by rw [idx_end] at hu; exact hu))
  · intro iv hi1 hi2 ih m hm hm2 hu
    refine m_run 2 (ps' := (9, [some (.inr (.inl 13)), some (.inl a), some (.inl x), some (.inl m), some (.inl iv), none, none], [.inl 91, .inl iv], mW C (S, P, K, F, B, G, E), 0, 0)) rfl ?_
    refine m_icmp rfl ⟨by omega, by omega⟩ ⟨by omega, by omega⟩ (fun (zc1 : 91 ≤ iv) => absurd zc1 (by omega)) (fun (zc1 : ¬ 91 ≤ iv) => ?_)
    refine m_run 2 (ps' := (16, [some (.inr (.inl 13)), some (.inl a), some (.inl x), some (.inl m), some (.inl iv), none, none], [.inl 60, .inl iv], mW C (S, P, K, F, B, G, E), 0, 0)) rfl ?_
    refine m_icmp rfl ⟨by omega, by omega⟩ ⟨by omega, by omega⟩ (fun (zc2 : 60 ≤ iv) => ?_) (fun (zc2 : ¬ 60 ≤ iv) => ?_)
    · have ze := shr_hi ra (k := iv) (by omega) (by omega)
      refine m_run 3 (ps' := (38, [some (.inr (.inl 13)), some (.inl a), some (.inl x), some (.inl m), some (.inl iv), none, none], [.inl a, .inr (.inl 18)], mW C (S, P, K, F, B, G, E), 0, 0)) rfl ?_
      refine m_lald rfl rfl (by omega) (by omega) (by decide) ?_
      refine m_run 10 (ps' := (53, [some (.inr (.inl 13)), some (.inl a), some (.inl x), some (.inl m), some (.inl iv), some (.inr (.inr (.long (((B.2 (a).toNat) >>> ((Int32.ofInt (iv - 60)).toInt64 &&& 63)) &&& (Int64.ofNat 1))))), none], [.inl ((lg_cmp (((B.2 (a).toNat) >>> ((Int32.ofInt (iv - 60)).toInt64 &&& 63)) &&& (Int64.ofNat 1)) (Int64.ofNat 1)).toInt)], mW C (S, P, K, F, B, G, E), 0, 0)) rfl ?_
      refine m_if rfl (lgc_R _ _) (fun (zc3 : ¬ (lg_cmp (((B.2 (a).toNat) >>> ((Int32.ofInt (iv - 60)).toInt64 &&& 63)) &&& (Int64.ofNat 1)) (Int64.ofNat 1)).toInt = 0) => ?_) (fun (zc3 : ¬ ¬ (lg_cmp (((B.2 (a).toNat) >>> ((Int32.ofInt (iv - 60)).toInt64 &&& 63)) &&& (Int64.ofNat 1)) (Int64.ofNat 1)).toInt = 0) => ?_)
      · refine m_run 7 (ps' := (5, [some (.inr (.inl 13)), some (.inl a), some (.inl x), some (.inl (m - ((((B.2 (a).toNat) >>> ((Int32.ofInt (iv - 60)).toInt64 &&& 63)) &&& (Int64.ofNat 1))).toInt32.toInt)), some (.inl (iv + 1)), some (.inr (.inr (.long (((B.2 (a).toNat) >>> ((Int32.ofInt (iv - 60)).toInt64 &&& 63)) &&& (Int64.ofNat 1))))), none], [], mW C (S, P, K, F, B, G, E), 0, 0)) rfl ?_
        refine m_weak [some (.inr (.inl 13)), some (.inl a), some (.inl x), some (.inl (m - ((((B.2 (a).toNat) >>> ((Int32.ofInt (iv - 60)).toInt64 &&& 63)) &&& (Int64.ofNat 1))).toInt32.toInt)), some (.inl (iv + 1)), none, none] ⟨rfl, ⟨rfl, ⟨rfl, ⟨rfl, ⟨rfl, trivial⟩⟩⟩⟩⟩ ?_
        rw [bit_l2i ze]
        rw [idx_f hi2 (by first | exact fun h9 => zc3 ((bit_lgc ze).mpr h9.1) | exact fun h9 => zc4 h9.2)] at hu
        have zb := bI_in (Pa iv)
        exact ih _ (by omega) (by omega) hu
      · replace zc3 : (lg_cmp (((B.2 (a).toNat) >>> ((Int32.ofInt (iv - 60)).toInt64 &&& 63)) &&& (Int64.ofNat 1)) (Int64.ofNat 1)).toInt = 0 := Decidable.not_not.mp zc3
        refine m_run 1 (ps' := (57, [some (.inr (.inl 13)), some (.inl a), some (.inl x), some (.inl m), some (.inl iv), some (.inr (.inr (.long (((B.2 (a).toNat) >>> ((Int32.ofInt (iv - 60)).toInt64 &&& 63)) &&& (Int64.ofNat 1))))), none], [.inl m], mW C (S, P, K, F, B, G, E), 0, 0)) rfl ?_
        refine m_if rfl ⟨by omega, by omega⟩ (fun (zc4 : ¬ m = 0) => ?_) (fun (zc4 : ¬ ¬ m = 0) => ?_)
        · refine m_run 7 (ps' := (5, [some (.inr (.inl 13)), some (.inl a), some (.inl x), some (.inl (m - ((((B.2 (a).toNat) >>> ((Int32.ofInt (iv - 60)).toInt64 &&& 63)) &&& (Int64.ofNat 1))).toInt32.toInt)), some (.inl (iv + 1)), some (.inr (.inr (.long (((B.2 (a).toNat) >>> ((Int32.ofInt (iv - 60)).toInt64 &&& 63)) &&& (Int64.ofNat 1))))), none], [], mW C (S, P, K, F, B, G, E), 0, 0)) rfl ?_
          refine m_weak [some (.inr (.inl 13)), some (.inl a), some (.inl x), some (.inl (m - ((((B.2 (a).toNat) >>> ((Int32.ofInt (iv - 60)).toInt64 &&& 63)) &&& (Int64.ofNat 1))).toInt32.toInt)), some (.inl (iv + 1)), none, none] ⟨rfl, ⟨rfl, ⟨rfl, ⟨rfl, ⟨rfl, trivial⟩⟩⟩⟩⟩ ?_
          rw [bit_l2i ze]
          rw [idx_f hi2 (by first | exact fun h9 => zc3 ((bit_lgc ze).mpr h9.1) | exact fun h9 => zc4 h9.2)] at hu
          have zb := bI_in (Pa iv)
          exact ih _ (by omega) (by omega) hu
        · replace zc4 : m = 0 := Decidable.not_not.mp zc4
          refine m_run 1 (ps' := (62, [some (.inr (.inl 13)), some (.inl a), some (.inl x), some (.inl m), some (.inl iv), some (.inr (.inr (.long (((B.2 (a).toNat) >>> ((Int32.ofInt (iv - 60)).toInt64 &&& 63)) &&& (Int64.ofNat 1))))), none], [.inl iv], mW C (S, P, K, F, B, G, E), 0, 0)) rfl ?_
          exact m_ret1 rfl (Or.inl rfl) rfl (m_Vi (by rw [idx_t hi2 ((bit_lgc ze).mp zc3) zc4] at hu; rw [← hu]; unfold onfS; rw [if_neg (by omega)]))
    · have ze := shr_lo ra (k := iv) (by omega) (by omega)
      refine m_run 3 (ps' := (24, [some (.inr (.inl 13)), some (.inl a), some (.inl x), some (.inl m), some (.inl iv), none, none], [.inl a, .inr (.inl 17)], mW C (S, P, K, F, B, G, E), 0, 0)) rfl ?_
      refine m_lald rfl rfl (by omega) (by omega) (by decide) ?_
      refine m_run 9 (ps' := (53, [some (.inr (.inl 13)), some (.inl a), some (.inl x), some (.inl m), some (.inl iv), some (.inr (.inr (.long (((B.1 (a).toNat) >>> ((Int32.ofInt iv).toInt64 &&& 63)) &&& (Int64.ofNat 1))))), none], [.inl ((lg_cmp (((B.1 (a).toNat) >>> ((Int32.ofInt iv).toInt64 &&& 63)) &&& (Int64.ofNat 1)) (Int64.ofNat 1)).toInt)], mW C (S, P, K, F, B, G, E), 0, 0)) rfl ?_
      refine m_if rfl (lgc_R _ _) (fun (zc3 : ¬ (lg_cmp (((B.1 (a).toNat) >>> ((Int32.ofInt iv).toInt64 &&& 63)) &&& (Int64.ofNat 1)) (Int64.ofNat 1)).toInt = 0) => ?_) (fun (zc3 : ¬ ¬ (lg_cmp (((B.1 (a).toNat) >>> ((Int32.ofInt iv).toInt64 &&& 63)) &&& (Int64.ofNat 1)) (Int64.ofNat 1)).toInt = 0) => ?_)
      · refine m_run 7 (ps' := (5, [some (.inr (.inl 13)), some (.inl a), some (.inl x), some (.inl (m - ((((B.1 (a).toNat) >>> ((Int32.ofInt iv).toInt64 &&& 63)) &&& (Int64.ofNat 1))).toInt32.toInt)), some (.inl (iv + 1)), some (.inr (.inr (.long (((B.1 (a).toNat) >>> ((Int32.ofInt iv).toInt64 &&& 63)) &&& (Int64.ofNat 1))))), none], [], mW C (S, P, K, F, B, G, E), 0, 0)) rfl ?_
        refine m_weak [some (.inr (.inl 13)), some (.inl a), some (.inl x), some (.inl (m - ((((B.1 (a).toNat) >>> ((Int32.ofInt iv).toInt64 &&& 63)) &&& (Int64.ofNat 1))).toInt32.toInt)), some (.inl (iv + 1)), none, none] ⟨rfl, ⟨rfl, ⟨rfl, ⟨rfl, ⟨rfl, trivial⟩⟩⟩⟩⟩ ?_
        rw [bit_l2i ze]
        rw [idx_f hi2 (by first | exact fun h9 => zc3 ((bit_lgc ze).mpr h9.1) | exact fun h9 => zc4 h9.2)] at hu
        have zb := bI_in (Pa iv)
        exact ih _ (by omega) (by omega) hu
      · replace zc3 : (lg_cmp (((B.1 (a).toNat) >>> ((Int32.ofInt iv).toInt64 &&& 63)) &&& (Int64.ofNat 1)) (Int64.ofNat 1)).toInt = 0 := Decidable.not_not.mp zc3
        refine m_run 1 (ps' := (57, [some (.inr (.inl 13)), some (.inl a), some (.inl x), some (.inl m), some (.inl iv), some (.inr (.inr (.long (((B.1 (a).toNat) >>> ((Int32.ofInt iv).toInt64 &&& 63)) &&& (Int64.ofNat 1))))), none], [.inl m], mW C (S, P, K, F, B, G, E), 0, 0)) rfl ?_
        refine m_if rfl ⟨by omega, by omega⟩ (fun (zc4 : ¬ m = 0) => ?_) (fun (zc4 : ¬ ¬ m = 0) => ?_)
        · refine m_run 7 (ps' := (5, [some (.inr (.inl 13)), some (.inl a), some (.inl x), some (.inl (m - ((((B.1 (a).toNat) >>> ((Int32.ofInt iv).toInt64 &&& 63)) &&& (Int64.ofNat 1))).toInt32.toInt)), some (.inl (iv + 1)), some (.inr (.inr (.long (((B.1 (a).toNat) >>> ((Int32.ofInt iv).toInt64 &&& 63)) &&& (Int64.ofNat 1))))), none], [], mW C (S, P, K, F, B, G, E), 0, 0)) rfl ?_
          refine m_weak [some (.inr (.inl 13)), some (.inl a), some (.inl x), some (.inl (m - ((((B.1 (a).toNat) >>> ((Int32.ofInt iv).toInt64 &&& 63)) &&& (Int64.ofNat 1))).toInt32.toInt)), some (.inl (iv + 1)), none, none] ⟨rfl, ⟨rfl, ⟨rfl, ⟨rfl, ⟨rfl, trivial⟩⟩⟩⟩⟩ ?_
          rw [bit_l2i ze]
          rw [idx_f hi2 (by first | exact fun h9 => zc3 ((bit_lgc ze).mpr h9.1) | exact fun h9 => zc4 h9.2)] at hu
          have zb := bI_in (Pa iv)
          exact ih _ (by omega) (by omega) hu
        · replace zc4 : m = 0 := Decidable.not_not.mp zc4
          refine m_run 1 (ps' := (62, [some (.inr (.inl 13)), some (.inl a), some (.inl x), some (.inl m), some (.inl iv), some (.inr (.inr (.long (((B.1 (a).toNat) >>> ((Int32.ofInt iv).toInt64 &&& 63)) &&& (Int64.ofNat 1))))), none], [.inl iv], mW C (S, P, K, F, B, G, E), 0, 0)) rfl ?_
          exact m_ret1 rfl (Or.inl rfl) rfl (m_Vi (by rw [idx_t hi2 ((bit_lgc ze).mp zc3) zc4] at hu; rw [← hu]; unfold onfS; rw [if_neg (by omega)]))
set_option maxHeartbeats 4000000 in
set_option maxRecDepth 100000 in
theorem d_ati {X : Nat × Nat × (Nat → Int32)} {C : CS} {S : Int → Int} {P K : TS} {F : Int × Int × Int} {B : (Nat → Int64) × (Nat → Int64)} {G : Int → Int} {E : Int × Int} {a x : Int} {Pa : Int → Bool} (ha : 0 ≤ a) (ha2 : a < 182) (ra : rowP (B.1 a.toNat) (B.2 a.toNat) Pa) (hx : 0 ≤ x) (hx2 : m_R x) : m_Run X 120 [.inr (.inl 13), .inl a, .inl x] (mW C (S, P, K, F, B, G, E)) (m_V (atM Pa x) (mW C (S, P, K, F, B, G, E))) := by
  obtain ⟨hx3, hx4⟩ := id hx2
  show m_Sem X 120 (0, [some (.inr (.inl 13)), some (.inl a), some (.inl x), none, none, none, none], [], mW C (S, P, K, F, B, G, E), 0, 0) _
  refine m_run 4 (ps' := (5, [some (.inr (.inl 13)), some (.inl a), some (.inl x), some (.inl x), some (.inl 0), none, none], [], mW C (S, P, K, F, B, G, E), 0, 0)) rfl ?_
  refine m_weak [some (.inr (.inl 13)), some (.inl a), some (.inl x), some (.inl x), some (.inl 0), none, none] ⟨rfl, ⟨rfl, ⟨rfl, ⟨rfl, ⟨rfl, trivial⟩⟩⟩⟩⟩ ?_
  exact e_ati (v := atM Pa x) ha ha2 ra 0 (by omega) (by omega) x (by omega) (by omega) rfl
def rwR (n : Int) (tb : Int → Int → Int) (r : Int) : Int → Bool := if r < 91 then lnR n tb r else ptR n tb (r - 91)
theorem rwR_p {n : Int} {tb : Int → Int → Int} {B : (Nat → Int64) × (Nat → Int64)} (hB : rowsB n tb B) {r : Int} (h1 : 0 ≤ r) (h2 : r < 182) : rowP (B.1 r.toNat) (B.2 r.toNat) (rwR n tb r) := by
  unfold rwR
  split
  · exact (hB r h1 (by omega)).1
  · have h3 := (hB (r - 91) (by omega) (by omega)).2
    rw [show 91 + (r - 91) = r by omega] at h3
    exact h3
theorem rwR_l {n : Int} {tb : Int → Int → Int} {r : Int} (h : r < 91) : rwR n tb r = lnR n tb r := if_pos h
theorem rwR_t {n : Int} {tb : Int → Int → Int} {r : Int} (h : 0 ≤ r) : rwR n tb (91 + r) = ptR n tb r := by
  unfold rwR
  rw [if_neg (by omega), show 91 + r - 91 = r by omega]
