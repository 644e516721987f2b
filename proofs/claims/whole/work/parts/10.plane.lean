def NP (n : Int) : Int := n * n + n + 1
def tbR (n : Int) (tb : Int → Int → Int) : Prop := ∀ a b, 0 ≤ a → a < n → 0 ≤ b → b < n → 0 ≤ tb a b ∧ tb a b < n
theorem repC.tb {n : Int} {T : Int → Int} {tb : Int → Int → Int} (h : repC n T tb) : tbR n tb := fun a b h1 h2 h3 h4 => (h.2 a b h1 h2 h3 h4).2
theorem sq_b {n : Int} (hn : okN n) : 4 ≤ n * n ∧ n * n ≤ 81 := by
  unfold okN at hn
  rcases hn with rfl | rfl | rfl | rfl | rfl | rfl <;> decide
theorem div_in {n p : Int} (hn : okN n) (h1 : 0 ≤ p) (h2 : p < n * n) : 0 ≤ p / n ∧ p / n < n := by
  have hl := okN_lo hn
  exact ⟨Int.ediv_nonneg h1 (by omega), Int.ediv_lt_of_lt_mul (by omega) h2⟩
theorem mod_in {n p : Int} (hn : okN n) : 0 ≤ p % n ∧ p % n < n := by
  have hl := okN_lo hn
  exact ⟨Int.emod_nonneg p (by omega), Int.emod_lt_of_pos p (by omega)⟩
theorem dmp {n p : Int} (hn : okN n) : ¬ (0 ≤ p ∧ p < n * n) ∨ (0 ≤ p / n ∧ p / n < n) := by
  by_cases h : 0 ≤ p ∧ p < n * n
  · exact Or.inr (div_in hn h.1 h.2)
  · exact Or.inl h
theorem div_np {n p : Int} (hn : okN n) : ¬ (0 ≤ p ∧ p < n * n + n + 1) ∨ (0 ≤ p / n ∧ p / n ≤ n + 1) := by
  have hl := okN_lo hn
  by_cases h : 0 ≤ p ∧ p < n * n + n + 1
  · refine Or.inr ⟨Int.ediv_nonneg h.1 (by omega), ?_⟩
    have h2 : p / n < n + 2 := Int.ediv_lt_of_lt_mul (by omega) (by rw [Int.add_mul]; omega)
    omega
  · exact Or.inl h
def plS (n : Int) (tb : Int → Int → Int) : Bool := decide (paS n tb true = 0) && decide (paS n tb false = 0)
theorem paS_R {n : Int} {tb : Int → Int → Int} {r : Bool} (hn : okN n) : m_R (paS n tb r) := by
  have hl := okN_lo hn
  have h1 : ∀ a, 0 ≤ a → a < n → -81 ≤ paR n tb r a ∧ paR n tb r a ≤ 81 := by
    intro a h1 h2
    have h3 : ∀ (k : Nat) (i : Int), -(9 * k : Int) ≤ sumF (fun b => n - onceS n tb r a b) k i ∧ sumF (fun b => n - onceS n tb r a b) k i ≤ 9 * k := by
      intro k
      induction k with
      | zero => intro i; simp [sumF]
      | succ k ih =>
        intro i
        unfold sumF
        have h4 := ih (i + 1)
        have h5 := onceS_in n tb r a i
        omega
    have h4 := h3 a.toNat 0
    unfold paR
    omega
  have h2 : ∀ (k : Nat) (i : Int), 0 ≤ i → i + k ≤ n → -(81 * k : Int) ≤ sumF (paR n tb r) k i ∧ sumF (paR n tb r) k i ≤ 81 * k := by
    intro k
    induction k with
    | zero => intro i _ _; simp [sumF]
    | succ k ih =>
      intro i h3 h4
      unfold sumF
      have h5 := ih (i + 1) (by omega) (by omega)
      have h6 := h1 i h3 (by omega)
      omega
  have h3 := h2 n.toNat 0 (by omega) (by omega)
  unfold paS
  generalize sumF (paR n tb r) n.toNat 0 = u at h3
  have h4 : -729 ≤ u ∧ u ≤ 729 := by omega
  unfold okN at hn
  constructor <;> (rcases hn with rfl | rfl | rfl | rfl | rfl | rfl <;> omega)
set_option maxHeartbeats 4000000 in
set_option maxRecDepth 100000 in
theorem k_pts {X : Nat × Nat × (Nat → Int32)} {n : Int} {T : Int → Int} {h : HS} {t : TS} {x : XS} {M : MS} {tb : Int → Int → Int} (hR : repC n T tb) : m_Run X 23 [.inr (.inl 1)] (mW (n, T, h, t, x) M) (m_V (NP n) (mW (n, T, h, t, x) M)) := by
  have hn := hR.1
  have hl := okN_lo hn
  have hq := sq_b hn
  show m_Sem X 23 (0, [some (.inr (.inl 1))], [], mW (n, T, h, t, x) M, 0, 0) _
  refine m_run 13 (ps' := (25, [some (.inr (.inl 1))], [.inl (((n * n) + n) + 1)], mW (n, T, h, t, x) M, 0, 0)) rfl ?_
  exact m_ret1 rfl (Or.inl rfl) rfl (m_Vi rfl)
set_option maxHeartbeats 4000000 in
set_option maxRecDepth 100000 in
theorem k_phas {X : Nat × Nat × (Nat → Int32)} {n : Int} {T : Int → Int} {h : HS} {t : TS} {x : XS} {M : MS} {tb : Int → Int → Int} (hR : repC n T tb) {e : Int} (he : m_R e) : m_Run X 24 [.inr (.inl 1), .inl e] (mW (n, T, h, t, x) M) (m_V (bI (inN (NP n) e)) (mW (n, T, h, t, x) M)) := by
  have hn := hR.1
  have hl := okN_lo hn
  have hq := sq_b hn
  show m_Sem X 24 (0, [some (.inr (.inl 1)), some (.inl e)], [], mW (n, T, h, t, x) M, 0, 0) _
  refine m_run 1 (ps' := (1, [some (.inr (.inl 1)), some (.inl e)], [.inl e], mW (n, T, h, t, x) M, 0, 0)) rfl ?_
  refine m_if rfl he (fun (zc1 : e < 0) => ?_) (fun (zc1 : ¬ e < 0) => ?_)
  · refine m_run 1 (ps' := (38, [some (.inr (.inl 1)), some (.inl e)], [.inl 0], mW (n, T, h, t, x) M, 0, 0)) rfl ?_
    exact m_ret1 rfl (Or.inr ⟨rfl, Or.inl rfl⟩) rfl (m_Vb (b0 (inN_f (by unfold NP; omega))))
  · refine m_run 14 (ps' := (30, [some (.inr (.inl 1)), some (.inl e)], [.inl (((n * n) + n) + 1), .inl e], mW (n, T, h, t, x) M, 0, 0)) rfl ?_
    refine m_icmp rfl he ⟨by omega, by omega⟩ (fun (zc2 : (((n * n) + n) + 1) ≤ e) => ?_) (fun (zc2 : ¬ (((n * n) + n) + 1) ≤ e) => ?_)
    · refine m_run 1 (ps' := (38, [some (.inr (.inl 1)), some (.inl e)], [.inl 0], mW (n, T, h, t, x) M, 0, 0)) rfl ?_
      exact m_ret1 rfl (Or.inr ⟨rfl, Or.inl rfl⟩) rfl (m_Vb (b0 (inN_f (by unfold NP; omega))))
    · refine m_run 2 (ps' := (38, [some (.inr (.inl 1)), some (.inl e)], [.inl 1], mW (n, T, h, t, x) M, 0, 0)) rfl ?_
      exact m_ret1 rfl (Or.inr ⟨rfl, Or.inr rfl⟩) rfl (m_Vb (b1 (inN_t (by omega) (by unfold NP; omega))))
set_option maxHeartbeats 4000000 in
set_option maxRecDepth 100000 in
theorem k_pl {X : Nat × Nat × (Nat → Int32)} {n : Int} {T : Int → Int} {h : HS} {t : TS} {x : XS} {M : MS} {tb : Int → Int → Int} (hR : repC n T tb) : m_Run X 25 [.inr (.inl 1)] (mW (n, T, h, t, x) M) (m_V (bI (plS n tb)) (mW (n, T, h, t, x) M)) := by
  have hn := hR.1
  have hl := okN_lo hn
  have hq := sq_b hn
  show m_Sem X 25 (0, [some (.inr (.inl 1))], [], mW (n, T, h, t, x) M, 0, 0) _
  refine m_run 3 (ps' := (5, [some (.inr (.inl 1))], [.inl 1, .inr (.inl 2)], mW (n, T, h, t, x) M, 0, 0)) rfl ?_
  refine m_callSF [.inr (.inl 2), .inl 1] [] rfl rfl rfl (k_pa (r := true) hR) ?_
  show m_Sem X 25 (8, [some (.inr (.inl 1))], [.inl (paS n tb true)], mW (n, T, h, t, x) M, 0, 0) _
  refine m_if rfl (paS_R hn) (fun (zc1 : ¬ (paS n tb true) = 0) => ?_) (fun (zc1 : ¬ ¬ (paS n tb true) = 0) => ?_)
  · refine m_run 1 (ps' := (27, [some (.inr (.inl 1))], [.inl 0], mW (n, T, h, t, x) M, 0, 0)) rfl ?_
    exact m_ret1 rfl (Or.inr ⟨rfl, Or.inl rfl⟩) rfl (m_Vb (b0 (by unfold plS; simp [*])))
  · replace zc1 : (paS n tb true) = 0 := Decidable.not_not.mp zc1
    refine m_run 3 (ps' := (16, [some (.inr (.inl 1))], [.inl 0, .inr (.inl 2)], mW (n, T, h, t, x) M, 0, 0)) rfl ?_
    refine m_callSF [.inr (.inl 2), .inl 0] [] rfl rfl rfl (k_pa (r := false) hR) ?_
    show m_Sem X 25 (19, [some (.inr (.inl 1))], [.inl (paS n tb false)], mW (n, T, h, t, x) M, 0, 0) _
    refine m_if rfl (paS_R hn) (fun (zc2 : ¬ (paS n tb false) = 0) => ?_) (fun (zc2 : ¬ ¬ (paS n tb false) = 0) => ?_)
    · refine m_run 1 (ps' := (27, [some (.inr (.inl 1))], [.inl 0], mW (n, T, h, t, x) M, 0, 0)) rfl ?_
      exact m_ret1 rfl (Or.inr ⟨rfl, Or.inl rfl⟩) rfl (m_Vb (b0 (by unfold plS; simp [*])))
    · replace zc2 : (paS n tb false) = 0 := Decidable.not_not.mp zc2
      refine m_run 2 (ps' := (27, [some (.inr (.inl 1))], [.inl 1], mW (n, T, h, t, x) M, 0, 0)) rfl ?_
      exact m_ret1 rfl (Or.inr ⟨rfl, Or.inr rfl⟩) rfl (m_Vb (b1 (by unfold plS; simp [*])))
def onC (n : Int) (tb : Int → Int → Int) (p l : Int) : Bool :=
  if inN (NP n) p = false then false else if inN (NP n) l = false then false
  else if n * n ≤ l then (if p / n = l - n * n then true else decide (p = n * n + n))
  else if p < n * n then decide (p % n = sumS n (tb (p / n) (l / n)) (l % n)) else decide (p = n * n + l / n)
theorem onC_in {n : Int} {tb : Int → Int → Int} {p l : Int} (h : onC n tb p l = true) : (0 ≤ p ∧ p < NP n) ∧ 0 ≤ l ∧ l < NP n := by
  unfold onC at h
  split at h
  · cases h
  · split at h
    · cases h
    · next h1 h2 => exact ⟨inN_i.mp (by simpa using h1), inN_i.mp (by simpa using h2)⟩
set_option maxHeartbeats 4000000 in
set_option maxRecDepth 100000 in
theorem k_on {X : Nat × Nat × (Nat → Int32)} {n : Int} {T : Int → Int} {h : HS} {t : TS} {x : XS} {M : MS} {tb : Int → Int → Int} (hR : repC n T tb) {p l : Int} (hp : m_R p) (hl2 : m_R l) : m_Run X 26 [.inr (.inl 1), .inl p, .inl l] (mW (n, T, h, t, x) M) (m_V (bI (onC n tb p l)) (mW (n, T, h, t, x) M)) := by
  have hn := hR.1
  have hl := okN_lo hn
  have hq := sq_b hn
  have d1 := dmp (p := p) hn
  have d2 := dmp (p := l) hn
  have d3 := div_np (p := p) hn
  have d4 := mod_in (p := p) hn
  have d5 := mod_in (p := l) hn
  show m_Sem X 26 (0, [some (.inr (.inl 1)), some (.inl p), some (.inl l), none, none, none], [], mW (n, T, h, t, x) M, 0, 0) _
  refine m_run 6 (ps' := (10, [some (.inr (.inl 1)), some (.inl p), some (.inl l), some (.inl n), none, none], [.inl 1, .inl n], mW (n, T, h, t, x) M, 0, 0)) rfl ?_
  refine m_icmp rfl ⟨by omega, by omega⟩ ⟨by omega, by omega⟩ (fun (zc1 : n < 1) => absurd zc1 (by omega)) (fun (zc1 : ¬ n < 1) => ?_)
  refine m_run 2 (ps' := (15, [some (.inr (.inl 1)), some (.inl p), some (.inl l), some (.inl n), none, none], [.inl p, .inr (.inl 1)], mW (n, T, h, t, x) M, 0, 0)) rfl ?_
  refine m_callVF [.inl p] [] rfl rfl ⟨_, rfl, rfl⟩ rfl rfl (k_phas (e := p) hR hp) ?_
  show m_Sem X 26 (18, [some (.inr (.inl 1)), some (.inl p), some (.inl l), some (.inl n), none, none], [.inl (bI (inN (NP n) p))], mW (n, T, h, t, x) M, 0, 0) _
  refine m_if rfl (bI_R _) (fun (zc2 : (bI (inN (NP n) p)) = 0) => ?_) (fun (zc2 : ¬ (bI (inN (NP n) p)) = 0) => ?_)
  · replace zc2 : (inN (NP n) p) = false := bI_e0.mp zc2
    refine m_run 1 (ps' := (30, [some (.inr (.inl 1)), some (.inl p), some (.inl l), some (.inl n), none, none], [.inl 0], mW (n, T, h, t, x) M, 0, 0)) rfl ?_
    exact m_ret1 rfl (Or.inr ⟨rfl, Or.inl rfl⟩) rfl (m_Vb (b0 (by unfold onC; (repeat' split) <;> first | rfl | exact decide_eq_true (by first | assumption | omega) | exact decide_eq_false (by first | assumption | omega) | (exfalso; omega) | simp_all)))
  · replace zc2 : (inN (NP n) p) = true := bI_n0.mp zc2
    have zi1 := inN_i.mp zc2
    unfold NP at zi1
    refine m_run 2 (ps' := (23, [some (.inr (.inl 1)), some (.inl p), some (.inl l), some (.inl n), none, none], [.inl l, .inr (.inl 1)], mW (n, T, h, t, x) M, 0, 0)) rfl ?_
    refine m_callVF [.inl l] [] rfl rfl ⟨_, rfl, rfl⟩ rfl rfl (k_phas (e := l) hR hl2) ?_
    show m_Sem X 26 (26, [some (.inr (.inl 1)), some (.inl p), some (.inl l), some (.inl n), none, none], [.inl (bI (inN (NP n) l))], mW (n, T, h, t, x) M, 0, 0) _
    refine m_if rfl (bI_R _) (fun (zc3 : ¬ (bI (inN (NP n) l)) = 0) => ?_) (fun (zc3 : ¬ ¬ (bI (inN (NP n) l)) = 0) => ?_)
    · replace zc3 : (inN (NP n) l) = true := bI_n0.mp zc3
      have zi2 := inN_i.mp zc3
      unfold NP at zi2
      refine m_run 6 (ps' := (39, [some (.inr (.inl 1)), some (.inl p), some (.inl l), some (.inl n), some (.inl (n * n)), none], [.inl (n * n), .inl l], mW (n, T, h, t, x) M, 0, 0)) rfl ?_
      refine m_icmp rfl ⟨by omega, by omega⟩ ⟨by omega, by omega⟩ (fun (zc4 : l < (n * n)) => ?_) (fun (zc4 : ¬ l < (n * n)) => ?_)
      · refine m_run 2 (ps' := (68, [some (.inr (.inl 1)), some (.inl p), some (.inl l), some (.inl n), some (.inl (n * n)), none], [.inl n, .inl l], mW (n, T, h, t, x) M, 0, 0)) rfl ?_
        refine m_div rfl (by omega) (by omega) (by omega) (by omega) ?_
        refine m_run 3 (ps' := (74, [some (.inr (.inl 1)), some (.inl p), some (.inl l), some (.inl n), some (.inl (n * n)), some (.inl (l / n))], [.inl (n * n), .inl p], mW (n, T, h, t, x) M, 0, 0)) rfl ?_
        refine m_icmp rfl ⟨by omega, by omega⟩ ⟨by omega, by omega⟩ (fun (zc5 : (n * n) ≤ p) => ?_) (fun (zc5 : ¬ (n * n) ≤ p) => ?_)
        · refine m_run 4 (ps' := (119, [some (.inr (.inl 1)), some (.inl p), some (.inl l), some (.inl n), some (.inl (n * n)), some (.inl (l / n))], [.inl ((n * n) + (l / n)), .inl p], mW (n, T, h, t, x) M, 0, 0)) rfl ?_
          refine m_icmp rfl ⟨by omega, by omega⟩ ⟨by omega, by omega⟩ (fun (zc6 : ¬ p = ((n * n) + (l / n))) => ?_) (fun (zc6 : ¬ ¬ p = ((n * n) + (l / n))) => ?_)
          · refine m_run 1 (ps' := (127, [some (.inr (.inl 1)), some (.inl p), some (.inl l), some (.inl n), some (.inl (n * n)), some (.inl (l / n))], [.inl 0], mW (n, T, h, t, x) M, 0, 0)) rfl ?_
            exact m_ret1 rfl (Or.inr ⟨rfl, Or.inl rfl⟩) rfl (m_Vb (b0 (by unfold onC; (repeat' split) <;> first | rfl | exact decide_eq_true (by first | assumption | omega) | exact decide_eq_false (by first | assumption | omega) | (exfalso; omega) | simp_all)))
          · replace zc6 : p = ((n * n) + (l / n)) := Decidable.not_not.mp zc6
            refine m_run 2 (ps' := (127, [some (.inr (.inl 1)), some (.inl p), some (.inl l), some (.inl n), some (.inl (n * n)), some (.inl (l / n))], [.inl 1], mW (n, T, h, t, x) M, 0, 0)) rfl ?_
            exact m_ret1 rfl (Or.inr ⟨rfl, Or.inr rfl⟩) rfl (m_Vb (b1 (by unfold onC; (repeat' split) <;> first | rfl | exact decide_eq_true (by first | assumption | omega) | exact decide_eq_false (by first | assumption | omega) | (exfalso; omega) | simp_all)))
        · refine m_run 2 (ps' := (79, [some (.inr (.inl 1)), some (.inl p), some (.inl l), some (.inl n), some (.inl (n * n)), some (.inl (l / n))], [.inl n, .inl p], mW (n, T, h, t, x) M, 0, 0)) rfl ?_
          refine m_rem rfl (by omega) (by omega) (by omega) (by omega) ?_
          refine m_run 6 (ps' := (90, [some (.inr (.inl 1)), some (.inl p), some (.inl l), some (.inl n), some (.inl (n * n)), some (.inl (l / n))], [.inl n, .inl p, .inr (.inl 2), .inr (.inl 2), .inl (p % n)], mW (n, T, h, t, x) M, 0, 0)) rfl ?_
          refine m_div rfl (by omega) (by omega) (by omega) (by omega) ?_
          refine m_run 1 (ps' := (93, [some (.inr (.inl 1)), some (.inl p), some (.inl l), some (.inl n), some (.inl (n * n)), some (.inl (l / n))], [.inl (l / n), .inl (p / n), .inr (.inl 2), .inr (.inl 2), .inl (p % n)], mW (n, T, h, t, x) M, 0, 0)) rfl ?_
          refine m_callVF [.inl (p / n), .inl (l / n)] [.inr (.inl 2), .inl (p % n)] rfl rfl ⟨_, rfl, rfl⟩ rfl rfl (k_times (a := (p / n)) (b := (l / n)) hR (by omega) (by omega) (by omega) (by omega)) ?_
          have zt1 := (hR.2 (p / n) (l / n) (by omega) (by omega) (by omega) (by omega)).2
          show m_Sem X 26 (96, [some (.inr (.inl 1)), some (.inl p), some (.inl l), some (.inl n), some (.inl (n * n)), some (.inl (l / n))], [.inl (tb (p / n) (l / n)), .inr (.inl 2), .inl (p % n)], mW (n, T, h, t, x) M, 0, 0) _
          refine m_run 2 (ps' := (98, [some (.inr (.inl 1)), some (.inl p), some (.inl l), some (.inl n), some (.inl (n * n)), some (.inl (l / n))], [.inl n, .inl l, .inl (tb (p / n) (l / n)), .inr (.inl 2), .inl (p % n)], mW (n, T, h, t, x) M, 0, 0)) rfl ?_
          refine m_rem rfl (by omega) (by omega) (by omega) (by omega) ?_
          refine m_callVF [.inl (tb (p / n) (l / n)), .inl (l % n)] [.inl (p % n)] rfl rfl ⟨_, rfl, rfl⟩ rfl rfl (k_sum (a := (tb (p / n) (l / n))) (b := (l % n)) hn (by omega) (by omega) (by omega) (by omega)) ?_
          have zt2 := sumS_in (n := n) (a := (tb (p / n) (l / n))) (b := (l % n)) hn (by omega) (by omega) (by omega) (by omega)
          show m_Sem X 26 (102, [some (.inr (.inl 1)), some (.inl p), some (.inl l), some (.inl n), some (.inl (n * n)), some (.inl (l / n))], [.inl (sumS n (tb (p / n) (l / n)) (l % n)), .inl (p % n)], mW (n, T, h, t, x) M, 0, 0) _
          refine m_icmp rfl ⟨by omega, by omega⟩ ⟨by omega, by omega⟩ (fun (zc6 : ¬ (p % n) = (sumS n (tb (p / n) (l / n)) (l % n))) => ?_) (fun (zc6 : ¬ ¬ (p % n) = (sumS n (tb (p / n) (l / n)) (l % n))) => ?_)
          · refine m_run 2 (ps' := (127, [some (.inr (.inl 1)), some (.inl p), some (.inl l), some (.inl n), some (.inl (n * n)), some (.inl (l / n))], [.inl 0], mW (n, T, h, t, x) M, 0, 0)) rfl ?_
            exact m_ret1 rfl (Or.inr ⟨rfl, Or.inl rfl⟩) rfl (m_Vb (b0 (by unfold onC; (repeat' split) <;> first | rfl | exact decide_eq_true (by first | assumption | omega) | exact decide_eq_false (by first | assumption | omega) | (exfalso; omega) | simp_all)))
          · replace zc6 : (p % n) = (sumS n (tb (p / n) (l / n)) (l % n)) := Decidable.not_not.mp zc6
            refine m_run 2 (ps' := (127, [some (.inr (.inl 1)), some (.inl p), some (.inl l), some (.inl n), some (.inl (n * n)), some (.inl (l / n))], [.inl 1], mW (n, T, h, t, x) M, 0, 0)) rfl ?_
            exact m_ret1 rfl (Or.inr ⟨rfl, Or.inr rfl⟩) rfl (m_Vb (b1 (by unfold onC; (repeat' split) <;> first | rfl | exact decide_eq_true (by first | assumption | omega) | exact decide_eq_false (by first | assumption | omega) | (exfalso; omega) | simp_all)))
      · refine m_run 2 (ps' := (44, [some (.inr (.inl 1)), some (.inl p), some (.inl l), some (.inl n), some (.inl (n * n)), none], [.inl n, .inl p], mW (n, T, h, t, x) M, 0, 0)) rfl ?_
        refine m_div rfl (by omega) (by omega) (by omega) (by omega) ?_
        refine m_run 3 (ps' := (49, [some (.inr (.inl 1)), some (.inl p), some (.inl l), some (.inl n), some (.inl (n * n)), none], [.inl (l - (n * n)), .inl (p / n)], mW (n, T, h, t, x) M, 0, 0)) rfl ?_
        refine m_icmp rfl ⟨by omega, by omega⟩ ⟨by omega, by omega⟩ (fun (zc5 : (p / n) = (l - (n * n))) => ?_) (fun (zc5 : ¬ (p / n) = (l - (n * n))) => ?_)
        · refine m_run 2 (ps' := (65, [some (.inr (.inl 1)), some (.inl p), some (.inl l), some (.inl n), some (.inl (n * n)), none], [.inl 1], mW (n, T, h, t, x) M, 0, 0)) rfl ?_
          exact m_ret1 rfl (Or.inr ⟨rfl, Or.inr rfl⟩) rfl (m_Vb (b1 (by unfold onC; (repeat' split) <;> first | rfl | exact decide_eq_true (by first | assumption | omega) | exact decide_eq_false (by first | assumption | omega) | (exfalso; omega) | simp_all)))
        · refine m_run 4 (ps' := (57, [some (.inr (.inl 1)), some (.inl p), some (.inl l), some (.inl n), some (.inl (n * n)), none], [.inl ((n * n) + n), .inl p], mW (n, T, h, t, x) M, 0, 0)) rfl ?_
          refine m_icmp rfl ⟨by omega, by omega⟩ ⟨by omega, by omega⟩ (fun (zc6 : ¬ p = ((n * n) + n)) => ?_) (fun (zc6 : ¬ ¬ p = ((n * n) + n)) => ?_)
          · refine m_run 1 (ps' := (65, [some (.inr (.inl 1)), some (.inl p), some (.inl l), some (.inl n), some (.inl (n * n)), none], [.inl 0], mW (n, T, h, t, x) M, 0, 0)) rfl ?_
            exact m_ret1 rfl (Or.inr ⟨rfl, Or.inl rfl⟩) rfl (m_Vb (b0 (by unfold onC; (repeat' split) <;> first | rfl | exact decide_eq_true (by first | assumption | omega) | exact decide_eq_false (by first | assumption | omega) | (exfalso; omega) | simp_all)))
          · replace zc6 : p = ((n * n) + n) := Decidable.not_not.mp zc6
            refine m_run 2 (ps' := (65, [some (.inr (.inl 1)), some (.inl p), some (.inl l), some (.inl n), some (.inl (n * n)), none], [.inl 1], mW (n, T, h, t, x) M, 0, 0)) rfl ?_
            exact m_ret1 rfl (Or.inr ⟨rfl, Or.inr rfl⟩) rfl (m_Vb (b1 (by unfold onC; (repeat' split) <;> first | rfl | exact decide_eq_true (by first | assumption | omega) | exact decide_eq_false (by first | assumption | omega) | (exfalso; omega) | simp_all)))
    · replace zc3 : (inN (NP n) l) = false := bI_e0.mp (Decidable.not_not.mp zc3)
      refine m_run 1 (ps' := (30, [some (.inr (.inl 1)), some (.inl p), some (.inl l), some (.inl n), none, none], [.inl 0], mW (n, T, h, t, x) M, 0, 0)) rfl ?_
      exact m_ret1 rfl (Or.inr ⟨rfl, Or.inl rfl⟩) rfl (m_Vb (b0 (by unfold onC; (repeat' split) <;> first | rfl | exact decide_eq_true (by first | assumption | omega) | exact decide_eq_false (by first | assumption | omega) | (exfalso; omega) | simp_all)))
def ptC (n : Int) (tb : Int → Int → Int) (l i : Int) : Int :=
  if inN (NP n) l = false then -1 else if i < 0 then -1 else if n < i then -1
  else if n * n ≤ l then (if i < n then n * (l - n * n) + i else n * n + n)
  else if i < n then n * i + sumS n (tb i (l / n)) (l % n) else n * n + l / n
def ltC (n : Int) (tb : Int → Int → Int) (p i : Int) : Int :=
  if inN (NP n) p = false then -1 else if i < 0 then -1 else if n < i then -1
  else if n * n ≤ p then (if i < n then n * (p - n * n) + i else n * n + n)
  else if i < n then n * i + difS n (p % n) (tb (p / n) i) else n * n + p / n
theorem mul_lt_sq {n a b : Int} (hn : okN n) (h1 : 0 ≤ a) (h2 : a < n) (h3 : 0 ≤ b) (h4 : b < n) : 0 ≤ n * a + b ∧ n * a + b < n * n := by
  have hl := okN_lo hn
  have h5 : n * a ≤ n * (n - 1) := Int.mul_le_mul_of_nonneg_left (by omega) (by omega)
  have h6 : n * (n - 1) = n * n - n := by rw [Int.mul_sub, Int.mul_one]
  have h7 : 0 ≤ n * a := Int.mul_nonneg (by omega) h1
  omega
theorem ptC_in {n : Int} {tb : Int → Int → Int} {l i : Int} (hn : okN n) (ht : tbR n tb) : ptC n tb l i = -1 ∨ (0 ≤ ptC n tb l i ∧ ptC n tb l i < NP n) := by
  have hl := okN_lo hn
  have hq := sq_b hn
  have d2 := dmp (p := l) hn
  have d5 := mod_in (p := l) hn
  unfold ptC
  split
  · exact Or.inl rfl
  · next h1 =>
    have h1 := inN_i.mp (by simpa using h1)
    unfold NP at h1 ⊢
    split
    · exact Or.inl rfl
    · split
      · exact Or.inl rfl
      · split
        · split
          · next h2 h3 h4 h5 =>
            by_cases hc : l - n * n < n
            · have h6 := mul_lt_sq hn (a := l - n * n) (b := i) (by omega) hc (by omega) h5
              exact Or.inr (by omega)
            · rw [show l - n * n = n by omega]
              exact Or.inr (by omega)
          · exact Or.inr (by omega)
        · split
          · next h2 h3 h4 h5 =>
            have h6 := ht i (l / n) (by omega) (by omega) (by omega) (by omega)
            have h7 := sumS_in hn h6.1 h6.2 d5.1 d5.2
            have h8 := mul_lt_sq hn (a := i) (b := sumS n (tb i (l / n)) (l % n)) (by omega) h5 h7.1 h7.2
            exact Or.inr (by omega)
          · exact Or.inr (by omega)
theorem ltC_in {n : Int} {tb : Int → Int → Int} {p i : Int} (hn : okN n) (ht : tbR n tb) : ltC n tb p i = -1 ∨ (0 ≤ ltC n tb p i ∧ ltC n tb p i < NP n) := by
  have hl := okN_lo hn
  have hq := sq_b hn
  have d2 := dmp (p := p) hn
  have d5 := mod_in (p := p) hn
  unfold ltC
  split
  · exact Or.inl rfl
  · next h1 =>
    have h1 := inN_i.mp (by simpa using h1)
    unfold NP at h1 ⊢
    split
    · exact Or.inl rfl
    · split
      · exact Or.inl rfl
      · split
        · split
          · next h2 h3 h4 h5 =>
            by_cases hc : p - n * n < n
            · have h6 := mul_lt_sq hn (a := p - n * n) (b := i) (by omega) hc (by omega) h5
              exact Or.inr (by omega)
            · rw [show p - n * n = n by omega]
              exact Or.inr (by omega)
          · exact Or.inr (by omega)
        · split
          · next h2 h3 h4 h5 =>
            have h6 := ht (p / n) i (by omega) (by omega) (by omega) (by omega)
            have h7 := difS_in hn d5.1 d5.2 h6.1 h6.2
            have h8 := mul_lt_sq hn (a := i) (b := difS n (p % n) (tb (p / n) i)) (by omega) h5 h7.1 h7.2
            exact Or.inr (by omega)
          · exact Or.inr (by omega)
set_option maxHeartbeats 4000000 in
set_option maxRecDepth 100000 in
theorem k_pt {X : Nat × Nat × (Nat → Int32)} {n : Int} {T : Int → Int} {h : HS} {t : TS} {x : XS} {M : MS} {tb : Int → Int → Int} (hR : repC n T tb) {l i : Int} (hp : m_R l) (hi : m_R i) : m_Run X 27 [.inr (.inl 1), .inl l, .inl i] (mW (n, T, h, t, x) M) (m_V (ptC n tb l i) (mW (n, T, h, t, x) M)) := by
  have hn := hR.1
  have hl := okN_lo hn
  have hq := sq_b hn
  have d2 := dmp (p := l) hn
  have d5 := mod_in (p := l) hn
  show m_Sem X 27 (0, [some (.inr (.inl 1)), some (.inl l), some (.inl i), none, none, none], [], mW (n, T, h, t, x) M, 0, 0) _
  refine m_run 6 (ps' := (10, [some (.inr (.inl 1)), some (.inl l), some (.inl i), some (.inl n), none, none], [.inl 1, .inl n], mW (n, T, h, t, x) M, 0, 0)) rfl ?_
  refine m_icmp rfl ⟨by omega, by omega⟩ ⟨by omega, by omega⟩ (fun (zc1 : n < 1) => absurd zc1 (by omega)) (fun (zc1 : ¬ n < 1) => ?_)
  refine m_run 2 (ps' := (15, [some (.inr (.inl 1)), some (.inl l), some (.inl i), some (.inl n), none, none], [.inl l, .inr (.inl 1)], mW (n, T, h, t, x) M, 0, 0)) rfl ?_
  refine m_callVF [.inl l] [] rfl rfl ⟨_, rfl, rfl⟩ rfl rfl (k_phas (e := l) hR hp) ?_
  show m_Sem X 27 (18, [some (.inr (.inl 1)), some (.inl l), some (.inl i), some (.inl n), none, none], [.inl (bI (inN (NP n) l))], mW (n, T, h, t, x) M, 0, 0) _
  refine m_if rfl (bI_R _) (fun (zc2 : (bI (inN (NP n) l)) = 0) => ?_) (fun (zc2 : ¬ (bI (inN (NP n) l)) = 0) => ?_)
  · replace zc2 : (inN (NP n) l) = false := bI_e0.mp zc2
    refine m_run 1 (ps' := (31, [some (.inr (.inl 1)), some (.inl l), some (.inl i), some (.inl n), none, none], [.inl (-1)], mW (n, T, h, t, x) M, 0, 0)) rfl ?_
    exact m_ret1 rfl (Or.inl rfl) rfl (m_Vi (by unfold ptC; (repeat' split) <;> first | rfl | (exfalso; omega) | omega | simp_all))
  · replace zc2 : (inN (NP n) l) = true := bI_n0.mp zc2
    have zi1 := inN_i.mp zc2
    unfold NP at zi1
    refine m_run 1 (ps' := (22, [some (.inr (.inl 1)), some (.inl l), some (.inl i), some (.inl n), none, none], [.inl i], mW (n, T, h, t, x) M, 0, 0)) rfl ?_
    refine m_if rfl hi (fun (zc3 : i < 0) => ?_) (fun (zc3 : ¬ i < 0) => ?_)
    · refine m_run 1 (ps' := (31, [some (.inr (.inl 1)), some (.inl l), some (.inl i), some (.inl n), none, none], [.inl (-1)], mW (n, T, h, t, x) M, 0, 0)) rfl ?_
      exact m_ret1 rfl (Or.inl rfl) rfl (m_Vi (by unfold ptC; (repeat' split) <;> first | rfl | (exfalso; omega) | omega | simp_all))
    · refine m_run 2 (ps' := (27, [some (.inr (.inl 1)), some (.inl l), some (.inl i), some (.inl n), none, none], [.inl n, .inl i], mW (n, T, h, t, x) M, 0, 0)) rfl ?_
      refine m_icmp rfl hi ⟨by omega, by omega⟩ (fun (zc4 : i ≤ n) => ?_) (fun (zc4 : ¬ i ≤ n) => ?_)
      · refine m_run 6 (ps' := (40, [some (.inr (.inl 1)), some (.inl l), some (.inl i), some (.inl n), some (.inl (n * n)), none], [.inl (n * n), .inl l], mW (n, T, h, t, x) M, 0, 0)) rfl ?_
        refine m_icmp rfl ⟨by omega, by omega⟩ ⟨by omega, by omega⟩ (fun (zc5 : l < (n * n)) => ?_) (fun (zc5 : ¬ l < (n * n)) => ?_)
        · refine m_run 2 (ps' := (66, [some (.inr (.inl 1)), some (.inl l), some (.inl i), some (.inl n), some (.inl (n * n)), none], [.inl n, .inl l], mW (n, T, h, t, x) M, 0, 0)) rfl ?_
          refine m_div rfl (by omega) (by omega) (by omega) (by omega) ?_
          refine m_run 3 (ps' := (71, [some (.inr (.inl 1)), some (.inl l), some (.inl i), some (.inl n), some (.inl (n * n)), some (.inl (l / n))], [.inl n, .inl i], mW (n, T, h, t, x) M, 0, 0)) rfl ?_
          refine m_icmp rfl hi ⟨by omega, by omega⟩ (fun (zc6 : n ≤ i) => ?_) (fun (zc6 : ¬ n ≤ i) => ?_)
          · refine m_run 3 (ps' := (106, [some (.inr (.inl 1)), some (.inl l), some (.inl i), some (.inl n), some (.inl (n * n)), some (.inl (l / n))], [.inl ((n * n) + (l / n))], mW (n, T, h, t, x) M, 0, 0)) rfl ?_
            exact m_ret1 rfl (Or.inl rfl) rfl (m_Vi (by unfold ptC; (repeat' split) <;> first | rfl | (exfalso; omega) | omega | simp_all))
          · refine m_run 9 (ps' := (88, [some (.inr (.inl 1)), some (.inl l), some (.inl i), some (.inl n), some (.inl (n * n)), some (.inl (l / n))], [.inl (l / n), .inl i, .inr (.inl 2), .inr (.inl 2), .inl (n * i)], mW (n, T, h, t, x) M, 0, 0)) rfl ?_
            refine m_callVF [.inl i, .inl (l / n)] [.inr (.inl 2), .inl (n * i)] rfl rfl ⟨_, rfl, rfl⟩ rfl rfl (k_times (a := i) (b := (l / n)) hR (by omega) (by omega) (by omega) (by omega)) ?_
            have zt1 := (hR.2 i (l / n) (by omega) (by omega) (by omega) (by omega)).2
            show m_Sem X 27 (91, [some (.inr (.inl 1)), some (.inl l), some (.inl i), some (.inl n), some (.inl (n * n)), some (.inl (l / n))], [.inl (tb i (l / n)), .inr (.inl 2), .inl (n * i)], mW (n, T, h, t, x) M, 0, 0) _
            refine m_run 2 (ps' := (93, [some (.inr (.inl 1)), some (.inl l), some (.inl i), some (.inl n), some (.inl (n * n)), some (.inl (l / n))], [.inl n, .inl l, .inl (tb i (l / n)), .inr (.inl 2), .inl (n * i)], mW (n, T, h, t, x) M, 0, 0)) rfl ?_
            refine m_rem rfl (by omega) (by omega) (by omega) (by omega) ?_
            refine m_callVF [.inl (tb i (l / n)), .inl (l % n)] [.inl (n * i)] rfl rfl ⟨_, rfl, rfl⟩ rfl rfl (k_sum (a := (tb i (l / n))) (b := (l % n)) hn (by omega) (by omega) (by omega) (by omega)) ?_
            have zt2 := sumS_in (n := n) (a := (tb i (l / n))) (b := (l % n)) hn (by omega) (by omega) (by omega) (by omega)
            show m_Sem X 27 (97, [some (.inr (.inl 1)), some (.inl l), some (.inl i), some (.inl n), some (.inl (n * n)), some (.inl (l / n))], [.inl (sumS n (tb i (l / n)) (l % n)), .inl (n * i)], mW (n, T, h, t, x) M, 0, 0) _
            refine m_run 2 (ps' := (106, [some (.inr (.inl 1)), some (.inl l), some (.inl i), some (.inl n), some (.inl (n * n)), some (.inl (l / n))], [.inl ((n * i) + (sumS n (tb i (l / n)) (l % n)))], mW (n, T, h, t, x) M, 0, 0)) rfl ?_
            exact m_ret1 rfl (Or.inl rfl) rfl (m_Vi (by unfold ptC; (repeat' split) <;> first | rfl | (exfalso; omega) | omega | simp_all))
        · refine m_run 2 (ps' := (45, [some (.inr (.inl 1)), some (.inl l), some (.inl i), some (.inl n), some (.inl (n * n)), none], [.inl n, .inl i], mW (n, T, h, t, x) M, 0, 0)) rfl ?_
          refine m_icmp rfl hi ⟨by omega, by omega⟩ (fun (zc6 : n ≤ i) => ?_) (fun (zc6 : ¬ n ≤ i) => ?_)
          · refine m_run 3 (ps' := (63, [some (.inr (.inl 1)), some (.inl l), some (.inl i), some (.inl n), some (.inl (n * n)), none], [.inl ((n * n) + n)], mW (n, T, h, t, x) M, 0, 0)) rfl ?_
            exact m_ret1 rfl (Or.inl rfl) rfl (m_Vi (by unfold ptC; (repeat' split) <;> first | rfl | (exfalso; omega) | omega | simp_all))
          · refine m_run 8 (ps' := (63, [some (.inr (.inl 1)), some (.inl l), some (.inl i), some (.inl n), some (.inl (n * n)), none], [.inl ((n * (l - (n * n))) + i)], mW (n, T, h, t, x) M, 0, 0)) rfl ?_
            exact m_ret1 rfl (Or.inl rfl) rfl (m_Vi (by unfold ptC; (repeat' split) <;> first | rfl | (exfalso; omega) | omega | simp_all))
      · refine m_run 1 (ps' := (31, [some (.inr (.inl 1)), some (.inl l), some (.inl i), some (.inl n), none, none], [.inl (-1)], mW (n, T, h, t, x) M, 0, 0)) rfl ?_
        exact m_ret1 rfl (Or.inl rfl) rfl (m_Vi (by unfold ptC; (repeat' split) <;> first | rfl | (exfalso; omega) | omega | simp_all))
set_option maxHeartbeats 4000000 in
set_option maxRecDepth 100000 in
theorem k_lt {X : Nat × Nat × (Nat → Int32)} {n : Int} {T : Int → Int} {h : HS} {t : TS} {x : XS} {M : MS} {tb : Int → Int → Int} (hR : repC n T tb) {l i : Int} (hp : m_R l) (hi : m_R i) : m_Run X 28 [.inr (.inl 1), .inl l, .inl i] (mW (n, T, h, t, x) M) (m_V (ltC n tb l i) (mW (n, T, h, t, x) M)) := by
  have hn := hR.1
  have hl := okN_lo hn
  have hq := sq_b hn
  have d2 := dmp (p := l) hn
  have d5 := mod_in (p := l) hn
  show m_Sem X 28 (0, [some (.inr (.inl 1)), some (.inl l), some (.inl i), none, none, none], [], mW (n, T, h, t, x) M, 0, 0) _
  refine m_run 6 (ps' := (10, [some (.inr (.inl 1)), some (.inl l), some (.inl i), some (.inl n), none, none], [.inl 1, .inl n], mW (n, T, h, t, x) M, 0, 0)) rfl ?_
  refine m_icmp rfl ⟨by omega, by omega⟩ ⟨by omega, by omega⟩ (fun (zc1 : n < 1) => absurd zc1 (by omega)) (fun (zc1 : ¬ n < 1) => ?_)
  refine m_run 2 (ps' := (15, [some (.inr (.inl 1)), some (.inl l), some (.inl i), some (.inl n), none, none], [.inl l, .inr (.inl 1)], mW (n, T, h, t, x) M, 0, 0)) rfl ?_
  refine m_callVF [.inl l] [] rfl rfl ⟨_, rfl, rfl⟩ rfl rfl (k_phas (e := l) hR hp) ?_
  show m_Sem X 28 (18, [some (.inr (.inl 1)), some (.inl l), some (.inl i), some (.inl n), none, none], [.inl (bI (inN (NP n) l))], mW (n, T, h, t, x) M, 0, 0) _
  refine m_if rfl (bI_R _) (fun (zc2 : (bI (inN (NP n) l)) = 0) => ?_) (fun (zc2 : ¬ (bI (inN (NP n) l)) = 0) => ?_)
  · replace zc2 : (inN (NP n) l) = false := bI_e0.mp zc2
    refine m_run 1 (ps' := (31, [some (.inr (.inl 1)), some (.inl l), some (.inl i), some (.inl n), none, none], [.inl (-1)], mW (n, T, h, t, x) M, 0, 0)) rfl ?_
    exact m_ret1 rfl (Or.inl rfl) rfl (m_Vi (by unfold ltC; (repeat' split) <;> first | rfl | (exfalso; omega) | omega | simp_all))
  · replace zc2 : (inN (NP n) l) = true := bI_n0.mp zc2
    have zi1 := inN_i.mp zc2
    unfold NP at zi1
    refine m_run 1 (ps' := (22, [some (.inr (.inl 1)), some (.inl l), some (.inl i), some (.inl n), none, none], [.inl i], mW (n, T, h, t, x) M, 0, 0)) rfl ?_
    refine m_if rfl hi (fun (zc3 : i < 0) => ?_) (fun (zc3 : ¬ i < 0) => ?_)
    · refine m_run 1 (ps' := (31, [some (.inr (.inl 1)), some (.inl l), some (.inl i), some (.inl n), none, none], [.inl (-1)], mW (n, T, h, t, x) M, 0, 0)) rfl ?_
      exact m_ret1 rfl (Or.inl rfl) rfl (m_Vi (by unfold ltC; (repeat' split) <;> first | rfl | (exfalso; omega) | omega | simp_all))
    · refine m_run 2 (ps' := (27, [some (.inr (.inl 1)), some (.inl l), some (.inl i), some (.inl n), none, none], [.inl n, .inl i], mW (n, T, h, t, x) M, 0, 0)) rfl ?_
      refine m_icmp rfl hi ⟨by omega, by omega⟩ (fun (zc4 : i ≤ n) => ?_) (fun (zc4 : ¬ i ≤ n) => ?_)
      · refine m_run 6 (ps' := (40, [some (.inr (.inl 1)), some (.inl l), some (.inl i), some (.inl n), some (.inl (n * n)), none], [.inl (n * n), .inl l], mW (n, T, h, t, x) M, 0, 0)) rfl ?_
        refine m_icmp rfl ⟨by omega, by omega⟩ ⟨by omega, by omega⟩ (fun (zc5 : l < (n * n)) => ?_) (fun (zc5 : ¬ l < (n * n)) => ?_)
        · refine m_run 2 (ps' := (66, [some (.inr (.inl 1)), some (.inl l), some (.inl i), some (.inl n), some (.inl (n * n)), none], [.inl n, .inl l], mW (n, T, h, t, x) M, 0, 0)) rfl ?_
          refine m_div rfl (by omega) (by omega) (by omega) (by omega) ?_
          refine m_run 3 (ps' := (71, [some (.inr (.inl 1)), some (.inl l), some (.inl i), some (.inl n), some (.inl (n * n)), some (.inl (l / n))], [.inl n, .inl i], mW (n, T, h, t, x) M, 0, 0)) rfl ?_
          refine m_icmp rfl hi ⟨by omega, by omega⟩ (fun (zc6 : n ≤ i) => ?_) (fun (zc6 : ¬ n ≤ i) => ?_)
          · refine m_run 3 (ps' := (106, [some (.inr (.inl 1)), some (.inl l), some (.inl i), some (.inl n), some (.inl (n * n)), some (.inl (l / n))], [.inl ((n * n) + (l / n))], mW (n, T, h, t, x) M, 0, 0)) rfl ?_
            exact m_ret1 rfl (Or.inl rfl) rfl (m_Vi (by unfold ltC; (repeat' split) <;> first | rfl | (exfalso; omega) | omega | simp_all))
          · refine m_run 7 (ps' := (83, [some (.inr (.inl 1)), some (.inl l), some (.inl i), some (.inl n), some (.inl (n * n)), some (.inl (l / n))], [.inl n, .inl l, .inr (.inl 2), .inl (n * i)], mW (n, T, h, t, x) M, 0, 0)) rfl ?_
            refine m_rem rfl (by omega) (by omega) (by omega) (by omega) ?_
            refine m_run 4 (ps' := (91, [some (.inr (.inl 1)), some (.inl l), some (.inl i), some (.inl n), some (.inl (n * n)), some (.inl (l / n))], [.inl i, .inl (l / n), .inr (.inl 2), .inl (l % n), .inr (.inl 2), .inl (n * i)], mW (n, T, h, t, x) M, 0, 0)) rfl ?_
            refine m_callVF [.inl (l / n), .inl i] [.inl (l % n), .inr (.inl 2), .inl (n * i)] rfl rfl ⟨_, rfl, rfl⟩ rfl rfl (k_times (a := (l / n)) (b := i) hR (by omega) (by omega) (by omega) (by omega)) ?_
            have zt1 := (hR.2 (l / n) i (by omega) (by omega) (by omega) (by omega)).2
            show m_Sem X 28 (94, [some (.inr (.inl 1)), some (.inl l), some (.inl i), some (.inl n), some (.inl (n * n)), some (.inl (l / n))], [.inl (tb (l / n) i), .inl (l % n), .inr (.inl 2), .inl (n * i)], mW (n, T, h, t, x) M, 0, 0) _
            refine m_callVF [.inl (l % n), .inl (tb (l / n) i)] [.inl (n * i)] rfl rfl ⟨_, rfl, rfl⟩ rfl rfl (k_dif (a := (l % n)) (b := (tb (l / n) i)) hn (by omega) (by omega) (by omega) (by omega)) ?_
            have zt2 := difS_in (n := n) (a := (l % n)) (b := (tb (l / n) i)) hn (by omega) (by omega) (by omega) (by omega)
            show m_Sem X 28 (97, [some (.inr (.inl 1)), some (.inl l), some (.inl i), some (.inl n), some (.inl (n * n)), some (.inl (l / n))], [.inl (difS n (l % n) (tb (l / n) i)), .inl (n * i)], mW (n, T, h, t, x) M, 0, 0) _
            refine m_run 2 (ps' := (106, [some (.inr (.inl 1)), some (.inl l), some (.inl i), some (.inl n), some (.inl (n * n)), some (.inl (l / n))], [.inl ((n * i) + (difS n (l % n) (tb (l / n) i)))], mW (n, T, h, t, x) M, 0, 0)) rfl ?_
            exact m_ret1 rfl (Or.inl rfl) rfl (m_Vi (by unfold ltC; (repeat' split) <;> first | rfl | (exfalso; omega) | omega | simp_all))
        · refine m_run 2 (ps' := (45, [some (.inr (.inl 1)), some (.inl l), some (.inl i), some (.inl n), some (.inl (n * n)), none], [.inl n, .inl i], mW (n, T, h, t, x) M, 0, 0)) rfl ?_
          refine m_icmp rfl hi ⟨by omega, by omega⟩ (fun (zc6 : n ≤ i) => ?_) (fun (zc6 : ¬ n ≤ i) => ?_)
          · refine m_run 3 (ps' := (63, [some (.inr (.inl 1)), some (.inl l), some (.inl i), some (.inl n), some (.inl (n * n)), none], [.inl ((n * n) + n)], mW (n, T, h, t, x) M, 0, 0)) rfl ?_
            exact m_ret1 rfl (Or.inl rfl) rfl (m_Vi (by unfold ltC; (repeat' split) <;> first | rfl | (exfalso; omega) | omega | simp_all))
          · refine m_run 8 (ps' := (63, [some (.inr (.inl 1)), some (.inl l), some (.inl i), some (.inl n), some (.inl (n * n)), none], [.inl ((n * (l - (n * n))) + i)], mW (n, T, h, t, x) M, 0, 0)) rfl ?_
            exact m_ret1 rfl (Or.inl rfl) rfl (m_Vi (by unfold ltC; (repeat' split) <;> first | rfl | (exfalso; omega) | omega | simp_all))
      · refine m_run 1 (ps' := (31, [some (.inr (.inl 1)), some (.inl l), some (.inl i), some (.inl n), none, none], [.inl (-1)], mW (n, T, h, t, x) M, 0, 0)) rfl ?_
        exact m_ret1 rfl (Or.inl rfl) rfl (m_Vi (by unfold ltC; (repeat' split) <;> first | rfl | (exfalso; omega) | omega | simp_all))
def lnF (n : Int) (tb : Int → Int → Int) (p q : Int) : Int → Option Int := fun i => if onC n tb q (ltC n tb p i) = true then some (ltC n tb p i) else none
def mtF (n : Int) (tb : Int → Int → Int) (l m : Int) : Int → Option Int := fun i => if onC n tb (ptC n tb l i) m = true then some (ptC n tb l i) else none
def oI (o : Option Int) : Int := o.getD (-1)
def lnC (n : Int) (tb : Int → Int → Int) (p q : Int) : Int := oI (optF (lnF n tb p q) (n + 1).toNat 0)
def mtC (n : Int) (tb : Int → Int → Int) (l m : Int) : Int := oI (optF (mtF n tb l m) (n + 1).toNat 0)
theorem lnC_in {n : Int} {tb : Int → Int → Int} {p q : Int} : lnC n tb p q = -1 ∨ (0 ≤ lnC n tb p q ∧ lnC n tb p q < NP n) := by
  unfold lnC
  cases h : optF (lnF n tb p q) (n + 1).toNat 0 with
  | none => exact Or.inl rfl
  | some v =>
    obtain ⟨i, -, -, h1, -⟩ := opt_some _ _ h
    unfold lnF at h1
    split at h1
    · next h2 =>
      cases h1
      exact Or.inr (onC_in h2).2
    · cases h1
theorem mtC_in {n : Int} {tb : Int → Int → Int} {p q : Int} : mtC n tb p q = -1 ∨ (0 ≤ mtC n tb p q ∧ mtC n tb p q < NP n) := by
  unfold mtC
  cases h : optF (mtF n tb p q) (n + 1).toNat 0 with
  | none => exact Or.inl rfl
  | some v =>
    obtain ⟨i, -, -, h1, -⟩ := opt_some _ _ h
    unfold mtF at h1
    split at h1
    · next h2 =>
      cases h1
      exact Or.inr (onC_in h2).1
    · cases h1
set_option maxHeartbeats 4000000 in
set_option maxRecDepth 100000 in
theorem l_ln {X : Nat × Nat × (Nat → Int32)} {n : Int} {T : Int → Int} {h : HS} {t : TS} {x : XS} {M : MS} {tb : Int → Int → Int} (hR : repC n T tb) {p q : Int} {o : Option Int} (hp : m_R p) (hq2 : m_R q) : ∀ i : Int, 0 ≤ i → i ≤ n + 1 → ∀ (ho : optF (lnF n tb p q) (n + 1 - i).toNat i = o), m_Sem X 29 (2, [some (.inr (.inl 1)), some (.inl p), some (.inl q), some (.inl i), none], [], mW (n, T, h, t, x) M, 0, 0) (m_V (oI o) (mW (n, T, h, t, x) M)) := by
  have hn := hR.1
  have hl := okN_lo hn
  have hq := sq_b hn
  refine m_down 0 (n + 1) ?_ ?_
  · intro ho
    show m_Sem X 29 (2, [some (.inr (.inl 1)), some (.inl p), some (.inl q), some (.inl (n + 1)), none], [], mW (n, T, h, t, x) M, 0, 0) _
    refine m_run 4 (ps' := (10, [some (.inr (.inl 1)), some (.inl p), some (.inl q), some (.inl (n + 1)), none], [.inl n, .inl (n + 1)], mW (n, T, h, t, x) M, 0, 0)) rfl ?_
    refine m_icmp rfl ⟨by omega, by omega⟩ ⟨by omega, by omega⟩ (fun (zc1 : n < n + 1) => ?_) (fun (zc1 : ¬ n < n + 1) => absurd zc1 (not_not_intro (by omega)))
    refine m_run 1 (ps' := (41, [some (.inr (.inl 1)), some (.inl p), some (.inl q), some (.inl (n + 1)), none], [.inl (-1)], mW (n, T, h, t, x) M, 0, 0)) rfl ?_
    exact m_ret1 rfl (Or.inl rfl) rfl (m_Vi (by rw [opt_end] at ho; subst ho; rfl))
  · intro i hi1 hi2 ih ho
    refine m_run 4 (ps' := (10, [some (.inr (.inl 1)), some (.inl p), some (.inl q), some (.inl i), none], [.inl n, .inl i], mW (n, T, h, t, x) M, 0, 0)) rfl ?_
    refine m_icmp rfl ⟨by omega, by omega⟩ ⟨by omega, by omega⟩ (fun (zc1 : n < i) => absurd zc1 (by omega)) (fun (zc1 : ¬ n < i) => ?_)
    refine m_run 3 (ps' := (16, [some (.inr (.inl 1)), some (.inl p), some (.inl q), some (.inl i), none], [.inl i, .inl p, .inr (.inl 1)], mW (n, T, h, t, x) M, 0, 0)) rfl ?_
    refine m_callVF [.inl p, .inl i] [] rfl rfl ⟨_, rfl, rfl⟩ rfl rfl (k_lt (l := p) (i := i) hR hp ⟨by omega, by omega⟩) ?_
    have zt1 := ltC_in (p := p) (i := i) hn hR.tb
    unfold NP at zt1
    show m_Sem X 29 (19, [some (.inr (.inl 1)), some (.inl p), some (.inl q), some (.inl i), none], [.inl (ltC n tb p i)], mW (n, T, h, t, x) M, 0, 0) _
    refine m_run 4 (ps' := (25, [some (.inr (.inl 1)), some (.inl p), some (.inl q), some (.inl i), some (.inl (ltC n tb p i))], [.inl (ltC n tb p i), .inl q, .inr (.inl 1)], mW (n, T, h, t, x) M, 0, 0)) rfl ?_
    refine m_callVF [.inl q, .inl (ltC n tb p i)] [] rfl rfl ⟨_, rfl, rfl⟩ rfl rfl (k_on (p := q) (l := (ltC n tb p i)) hR hq2 ⟨by omega, by omega⟩) ?_
    show m_Sem X 29 (28, [some (.inr (.inl 1)), some (.inl p), some (.inl q), some (.inl i), some (.inl (ltC n tb p i))], [.inl (bI (onC n tb q (ltC n tb p i)))], mW (n, T, h, t, x) M, 0, 0) _
    refine m_if rfl (bI_R (onC n tb q (ltC n tb p i))) (fun (zc2 : (bI (onC n tb q (ltC n tb p i))) = 0) => ?_) (fun (zc2 : ¬ (bI (onC n tb q (ltC n tb p i))) = 0) => ?_)
    · replace zc2 : (onC n tb q (ltC n tb p i)) = false := bI_e0.mp zc2
      refine m_run 2 (ps' := (2, [some (.inr (.inl 1)), some (.inl p), some (.inl q), some (.inl (i + 1)), some (.inl (ltC n tb p i))], [], mW (n, T, h, t, x) M, 0, 0)) rfl ?_
      refine m_weak [some (.inr (.inl 1)), some (.inl p), some (.inl q), some (.inl (i + 1)), none] ⟨rfl, ⟨rfl, ⟨rfl, ⟨rfl, trivial⟩⟩⟩⟩ ?_
      have hh : lnF n tb p q i = none := by unfold lnF; rw [if_neg (by rw [zc2]; decide)]
      rw [opt_n hi2 hh] at ho
      exact ih ho
    · replace zc2 : (onC n tb q (ltC n tb p i)) = true := bI_n0.mp zc2
      refine m_run 1 (ps' := (33, [some (.inr (.inl 1)), some (.inl p), some (.inl q), some (.inl i), some (.inl (ltC n tb p i))], [.inl (ltC n tb p i)], mW (n, T, h, t, x) M, 0, 0)) rfl ?_
      exact m_ret1 rfl (Or.inl rfl) rfl (m_Vi (by
        have hh : lnF n tb p q i = some (ltC n tb p i) := by unfold lnF; rw [if_pos zc2]
        rw [opt_s hi2 hh] at ho
        subst ho
        rfl))
set_option maxHeartbeats 4000000 in
set_option maxRecDepth 100000 in
theorem k_ln {X : Nat × Nat × (Nat → Int32)} {n : Int} {T : Int → Int} {h : HS} {t : TS} {x : XS} {M : MS} {tb : Int → Int → Int} (hR : repC n T tb) {p q : Int} (hp : m_R p) (hq2 : m_R q) : m_Run X 29 [.inr (.inl 1), .inl p, .inl q] (mW (n, T, h, t, x) M) (m_V (lnC n tb p q) (mW (n, T, h, t, x) M)) := by
  have hn := hR.1
  have hl := okN_lo hn
  have hq := sq_b hn
  show m_Sem X 29 (0, [some (.inr (.inl 1)), some (.inl p), some (.inl q), none, none], [], mW (n, T, h, t, x) M, 0, 0) _
  refine m_run 2 (ps' := (2, [some (.inr (.inl 1)), some (.inl p), some (.inl q), some (.inl 0), none], [], mW (n, T, h, t, x) M, 0, 0)) rfl ?_
  refine m_weak [some (.inr (.inl 1)), some (.inl p), some (.inl q), some (.inl 0), none] ⟨rfl, ⟨rfl, ⟨rfl, ⟨rfl, trivial⟩⟩⟩⟩ ?_
  exact l_ln hR hp hq2 0 (by omega) (by omega) (by rw [z_sub])
set_option maxHeartbeats 4000000 in
set_option maxRecDepth 100000 in
theorem l_mt {X : Nat × Nat × (Nat → Int32)} {n : Int} {T : Int → Int} {h : HS} {t : TS} {x : XS} {M : MS} {tb : Int → Int → Int} (hR : repC n T tb) {p q : Int} {o : Option Int} (hp : m_R p) (hq2 : m_R q) : ∀ i : Int, 0 ≤ i → i ≤ n + 1 → ∀ (ho : optF (mtF n tb p q) (n + 1 - i).toNat i = o), m_Sem X 30 (2, [some (.inr (.inl 1)), some (.inl p), some (.inl q), some (.inl i), none], [], mW (n, T, h, t, x) M, 0, 0) (m_V (oI o) (mW (n, T, h, t, x) M)) := by
  have hn := hR.1
  have hl := okN_lo hn
  have hq := sq_b hn
  refine m_down 0 (n + 1) ?_ ?_
  · intro ho
    show m_Sem X 30 (2, [some (.inr (.inl 1)), some (.inl p), some (.inl q), some (.inl (n + 1)), none], [], mW (n, T, h, t, x) M, 0, 0) _
    refine m_run 4 (ps' := (10, [some (.inr (.inl 1)), some (.inl p), some (.inl q), some (.inl (n + 1)), none], [.inl n, .inl (n + 1)], mW (n, T, h, t, x) M, 0, 0)) rfl ?_
    refine m_icmp rfl ⟨by omega, by omega⟩ ⟨by omega, by omega⟩ (fun (zc1 : n < n + 1) => ?_) (fun (zc1 : ¬ n < n + 1) => absurd zc1 (not_not_intro (by omega)))
    refine m_run 1 (ps' := (41, [some (.inr (.inl 1)), some (.inl p), some (.inl q), some (.inl (n + 1)), none], [.inl (-1)], mW (n, T, h, t, x) M, 0, 0)) rfl ?_
    exact m_ret1 rfl (Or.inl rfl) rfl (m_Vi (by rw [opt_end] at ho; subst ho; rfl))
  · intro i hi1 hi2 ih ho
    refine m_run 4 (ps' := (10, [some (.inr (.inl 1)), some (.inl p), some (.inl q), some (.inl i), none], [.inl n, .inl i], mW (n, T, h, t, x) M, 0, 0)) rfl ?_
    refine m_icmp rfl ⟨by omega, by omega⟩ ⟨by omega, by omega⟩ (fun (zc1 : n < i) => absurd zc1 (by omega)) (fun (zc1 : ¬ n < i) => ?_)
    refine m_run 3 (ps' := (16, [some (.inr (.inl 1)), some (.inl p), some (.inl q), some (.inl i), none], [.inl i, .inl p, .inr (.inl 1)], mW (n, T, h, t, x) M, 0, 0)) rfl ?_
    refine m_callVF [.inl p, .inl i] [] rfl rfl ⟨_, rfl, rfl⟩ rfl rfl (k_pt (l := p) (i := i) hR hp ⟨by omega, by omega⟩) ?_
    have zt1 := ptC_in (l := p) (i := i) hn hR.tb
    unfold NP at zt1
    show m_Sem X 30 (19, [some (.inr (.inl 1)), some (.inl p), some (.inl q), some (.inl i), none], [.inl (ptC n tb p i)], mW (n, T, h, t, x) M, 0, 0) _
    refine m_run 4 (ps' := (25, [some (.inr (.inl 1)), some (.inl p), some (.inl q), some (.inl i), some (.inl (ptC n tb p i))], [.inl q, .inl (ptC n tb p i), .inr (.inl 1)], mW (n, T, h, t, x) M, 0, 0)) rfl ?_
    refine m_callVF [.inl (ptC n tb p i), .inl q] [] rfl rfl ⟨_, rfl, rfl⟩ rfl rfl (k_on (p := (ptC n tb p i)) (l := q) hR ⟨by omega, by omega⟩ hq2) ?_
    show m_Sem X 30 (28, [some (.inr (.inl 1)), some (.inl p), some (.inl q), some (.inl i), some (.inl (ptC n tb p i))], [.inl (bI (onC n tb (ptC n tb p i) q))], mW (n, T, h, t, x) M, 0, 0) _
    refine m_if rfl (bI_R (onC n tb (ptC n tb p i) q)) (fun (zc2 : (bI (onC n tb (ptC n tb p i) q)) = 0) => ?_) (fun (zc2 : ¬ (bI (onC n tb (ptC n tb p i) q)) = 0) => ?_)
    · replace zc2 : (onC n tb (ptC n tb p i) q) = false := bI_e0.mp zc2
      refine m_run 2 (ps' := (2, [some (.inr (.inl 1)), some (.inl p), some (.inl q), some (.inl (i + 1)), some (.inl (ptC n tb p i))], [], mW (n, T, h, t, x) M, 0, 0)) rfl ?_
      refine m_weak [some (.inr (.inl 1)), some (.inl p), some (.inl q), some (.inl (i + 1)), none] ⟨rfl, ⟨rfl, ⟨rfl, ⟨rfl, trivial⟩⟩⟩⟩ ?_
      have hh : mtF n tb p q i = none := by unfold mtF; rw [if_neg (by rw [zc2]; decide)]
      rw [opt_n hi2 hh] at ho
      exact ih ho
    · replace zc2 : (onC n tb (ptC n tb p i) q) = true := bI_n0.mp zc2
      refine m_run 1 (ps' := (33, [some (.inr (.inl 1)), some (.inl p), some (.inl q), some (.inl i), some (.inl (ptC n tb p i))], [.inl (ptC n tb p i)], mW (n, T, h, t, x) M, 0, 0)) rfl ?_
      exact m_ret1 rfl (Or.inl rfl) rfl (m_Vi (by
        have hh : mtF n tb p q i = some (ptC n tb p i) := by unfold mtF; rw [if_pos zc2]
        rw [opt_s hi2 hh] at ho
        subst ho
        rfl))
set_option maxHeartbeats 4000000 in
set_option maxRecDepth 100000 in
theorem k_mt {X : Nat × Nat × (Nat → Int32)} {n : Int} {T : Int → Int} {h : HS} {t : TS} {x : XS} {M : MS} {tb : Int → Int → Int} (hR : repC n T tb) {p q : Int} (hp : m_R p) (hq2 : m_R q) : m_Run X 30 [.inr (.inl 1), .inl p, .inl q] (mW (n, T, h, t, x) M) (m_V (mtC n tb p q) (mW (n, T, h, t, x) M)) := by
  have hn := hR.1
  have hl := okN_lo hn
  have hq := sq_b hn
  show m_Sem X 30 (0, [some (.inr (.inl 1)), some (.inl p), some (.inl q), none, none], [], mW (n, T, h, t, x) M, 0, 0) _
  refine m_run 2 (ps' := (2, [some (.inr (.inl 1)), some (.inl p), some (.inl q), some (.inl 0), none], [], mW (n, T, h, t, x) M, 0, 0)) rfl ?_
  refine m_weak [some (.inr (.inl 1)), some (.inl p), some (.inl q), some (.inl 0), none] ⟨rfl, ⟨rfl, ⟨rfl, ⟨rfl, trivial⟩⟩⟩⟩ ?_
  exact l_mt hR hp hq2 0 (by omega) (by omega) (by rw [z_sub])
def pbC (n : Int) (tb : Int → Int → Int) (l o i : Int) : Int := if ptC n tb l i < o then ptC n tb l i else ptC n tb l (i + 1)
theorem pbC_in {n : Int} {tb : Int → Int → Int} {l o i : Int} (hn : okN n) (ht : tbR n tb) : pbC n tb l o i = -1 ∨ (0 ≤ pbC n tb l o i ∧ pbC n tb l o i < NP n) := by
  unfold pbC
  split
  · exact ptC_in hn ht
  · exact ptC_in hn ht
set_option maxHeartbeats 4000000 in
set_option maxRecDepth 100000 in
theorem k_pb {X : Nat × Nat × (Nat → Int32)} {n : Int} {T : Int → Int} {h : HS} {t : TS} {x : XS} {M : MS} {tb : Int → Int → Int} (hR : repC n T tb) {l o i : Int} (hp : m_R l) (ho : m_R o) (hi : m_R i) (hi2 : m_R (i + 1)) : m_Run X 31 [.inr (.inl 1), .inl l, .inl o, .inl i] (mW (n, T, h, t, x) M) (m_V (pbC n tb l o i) (mW (n, T, h, t, x) M)) := by
  have hn := hR.1
  have hl := okN_lo hn
  have hq := sq_b hn
  show m_Sem X 31 (0, [some (.inr (.inl 1)), some (.inl l), some (.inl o), some (.inl i), none], [], mW (n, T, h, t, x) M, 0, 0) _
  refine m_run 3 (ps' := (3, [some (.inr (.inl 1)), some (.inl l), some (.inl o), some (.inl i), none], [.inl i, .inl l, .inr (.inl 1)], mW (n, T, h, t, x) M, 0, 0)) rfl ?_
  refine m_callVF [.inl l, .inl i] [] rfl rfl ⟨_, rfl, rfl⟩ rfl rfl (k_pt (l := l) (i := i) hR hp hi) ?_
  have zt1 := ptC_in (l := l) (i := i) hn hR.tb
  unfold NP at zt1
  show m_Sem X 31 (6, [some (.inr (.inl 1)), some (.inl l), some (.inl o), some (.inl i), none], [.inl (ptC n tb l i)], mW (n, T, h, t, x) M, 0, 0) _
  refine m_run 3 (ps' := (11, [some (.inr (.inl 1)), some (.inl l), some (.inl o), some (.inl i), some (.inl (ptC n tb l i))], [.inl o, .inl (ptC n tb l i)], mW (n, T, h, t, x) M, 0, 0)) rfl ?_
  refine m_icmp rfl ⟨by omega, by omega⟩ ho (fun (zc1 : o ≤ (ptC n tb l i)) => ?_) (fun (zc1 : ¬ o ≤ (ptC n tb l i)) => ?_)
  · refine m_run 5 (ps' := (24, [some (.inr (.inl 1)), some (.inl l), some (.inl o), some (.inl i), some (.inl (ptC n tb l i))], [.inl (i + 1), .inl l, .inr (.inl 1)], mW (n, T, h, t, x) M, 0, 0)) rfl ?_
    refine m_callVF [.inl l, .inl (i + 1)] [] rfl rfl ⟨_, rfl, rfl⟩ rfl rfl (k_pt (l := l) (i := (i + 1)) hR hp hi2) ?_
    have zt2 := ptC_in (l := l) (i := (i + 1)) hn hR.tb
    unfold NP at zt2
    show m_Sem X 31 (27, [some (.inr (.inl 1)), some (.inl l), some (.inl o), some (.inl i), some (.inl (ptC n tb l i))], [.inl (ptC n tb l (i + 1))], mW (n, T, h, t, x) M, 0, 0) _
    exact m_ret1 rfl (Or.inl rfl) rfl (m_Vi (by unfold pbC; (repeat' split) <;> first | rfl | (exfalso; omega) | omega | simp_all))
  · refine m_run 2 (ps' := (27, [some (.inr (.inl 1)), some (.inl l), some (.inl o), some (.inl i), some (.inl (ptC n tb l i))], [.inl (ptC n tb l i)], mW (n, T, h, t, x) M, 0, 0)) rfl ?_
    exact m_ret1 rfl (Or.inl rfl) rfl (m_Vi (by unfold pbC; (repeat' split) <;> first | rfl | (exfalso; omega) | omega | simp_all))
def crC (n : Int) (tb : Int → Int → Int) (a b c d : Int) : Int := mtC n tb (lnC n tb a b) (lnC n tb c d)
set_option maxHeartbeats 4000000 in
set_option maxRecDepth 100000 in
theorem k_cr {X : Nat × Nat × (Nat → Int32)} {n : Int} {T : Int → Int} {h : HS} {t : TS} {x : XS} {M : MS} {tb : Int → Int → Int} (hR : repC n T tb) {a b c d : Int} (ha : m_R a) (hb : m_R b) (hc : m_R c) (hd : m_R d) : m_Run X 32 [.inr (.inl 1), .inl a, .inl b, .inl c, .inl d] (mW (n, T, h, t, x) M) (m_V (crC n tb a b c d) (mW (n, T, h, t, x) M)) := by
  have hn := hR.1
  have hl := okN_lo hn
  have hq := sq_b hn
  show m_Sem X 32 (0, [some (.inr (.inl 1)), some (.inl a), some (.inl b), some (.inl c), some (.inl d)], [], mW (n, T, h, t, x) M, 0, 0) _
  refine m_run 4 (ps' := (4, [some (.inr (.inl 1)), some (.inl a), some (.inl b), some (.inl c), some (.inl d)], [.inl b, .inl a, .inr (.inl 1), .inr (.inl 1)], mW (n, T, h, t, x) M, 0, 0)) rfl ?_
  refine m_callVF [.inl a, .inl b] [.inr (.inl 1)] rfl rfl ⟨_, rfl, rfl⟩ rfl rfl (k_ln (p := a) (q := b) hR ha hb) ?_
  have zt1 := lnC_in (n := n) (tb := tb) (p := a) (q := b)
  unfold NP at zt1
  show m_Sem X 32 (7, [some (.inr (.inl 1)), some (.inl a), some (.inl b), some (.inl c), some (.inl d)], [.inl (lnC n tb a b), .inr (.inl 1)], mW (n, T, h, t, x) M, 0, 0) _
  refine m_run 3 (ps' := (11, [some (.inr (.inl 1)), some (.inl a), some (.inl b), some (.inl c), some (.inl d)], [.inl d, .inl c, .inr (.inl 1), .inl (lnC n tb a b), .inr (.inl 1)], mW (n, T, h, t, x) M, 0, 0)) rfl ?_
  refine m_callVF [.inl c, .inl d] [.inl (lnC n tb a b), .inr (.inl 1)] rfl rfl ⟨_, rfl, rfl⟩ rfl rfl (k_ln (p := c) (q := d) hR hc hd) ?_
  have zt2 := lnC_in (n := n) (tb := tb) (p := c) (q := d)
  unfold NP at zt2
  show m_Sem X 32 (14, [some (.inr (.inl 1)), some (.inl a), some (.inl b), some (.inl c), some (.inl d)], [.inl (lnC n tb c d), .inl (lnC n tb a b), .inr (.inl 1)], mW (n, T, h, t, x) M, 0, 0) _
  refine m_callVF [.inl (lnC n tb a b), .inl (lnC n tb c d)] [] rfl rfl ⟨_, rfl, rfl⟩ rfl rfl (k_mt (p := (lnC n tb a b)) (q := (lnC n tb c d)) hR ⟨by omega, by omega⟩ ⟨by omega, by omega⟩) ?_
  have zt3 := mtC_in (n := n) (tb := tb) (p := (lnC n tb a b)) (q := (lnC n tb c d))
  unfold NP at zt3
  show m_Sem X 32 (17, [some (.inr (.inl 1)), some (.inl a), some (.inl b), some (.inl c), some (.inl d)], [.inl (mtC n tb (lnC n tb a b) (lnC n tb c d))], mW (n, T, h, t, x) M, 0, 0) _
  exact m_ret1 rfl (Or.inl rfl) rfl (m_Vi rfl)
def olF (n : Int) (tb : Int → Int → Int) (a b c : Int) : Int → Bool := fun i => ! (onC n tb b (ltC n tb a i) && onC n tb c (ltC n tb a i))
def olC (n : Int) (tb : Int → Int → Int) (a b c : Int) : Bool := ! allF (olF n tb a b c) (n + 1).toNat 0
set_option maxHeartbeats 4000000 in
set_option maxRecDepth 100000 in
theorem l_ol {X : Nat × Nat × (Nat → Int32)} {n : Int} {T : Int → Int} {h : HS} {t : TS} {x : XS} {M : MS} {tb : Int → Int → Int} (hR : repC n T tb) {a b c : Int} {o : Bool} (ha : m_R a) (hb : m_R b) (hc : m_R c) : ∀ i : Int, 0 ≤ i → i ≤ n + 1 → ∀ (ho : allF (olF n tb a b c) (n + 1 - i).toNat i = o), m_Sem X 33 (3, [some (.inr (.inl 1)), some (.inl a), some (.inl b), some (.inl c), some (.inl i), none], [], mW (n, T, h, t, x) M, 0, 0) (m_V (bI (! o)) (mW (n, T, h, t, x) M)) := by
  have hn := hR.1
  have hl := okN_lo hn
  have hq := sq_b hn
  refine m_down 0 (n + 1) ?_ ?_
  · intro ho
    show m_Sem X 33 (3, [some (.inr (.inl 1)), some (.inl a), some (.inl b), some (.inl c), some (.inl (n + 1)), none], [], mW (n, T, h, t, x) M, 0, 0) _
    refine m_run 4 (ps' := (12, [some (.inr (.inl 1)), some (.inl a), some (.inl b), some (.inl c), some (.inl (n + 1)), none], [.inl n, .inl (n + 1)], mW (n, T, h, t, x) M, 0, 0)) rfl ?_
    refine m_icmp rfl ⟨by omega, by omega⟩ ⟨by omega, by omega⟩ (fun (zc1 : n < n + 1) => ?_) (fun (zc1 : ¬ n < n + 1) => absurd zc1 (not_not_intro (by omega)))
    refine m_run 1 (ps' := (53, [some (.inr (.inl 1)), some (.inl a), some (.inl b), some (.inl c), some (.inl (n + 1)), none], [.inl 0], mW (n, T, h, t, x) M, 0, 0)) rfl ?_
    exact m_ret1 rfl (Or.inr ⟨rfl, Or.inl rfl⟩) rfl (m_Vb (by rw [all_end] at ho; subst ho; rfl))
  · intro i hi1 hi2 ih ho
    refine m_run 4 (ps' := (12, [some (.inr (.inl 1)), some (.inl a), some (.inl b), some (.inl c), some (.inl i), none], [.inl n, .inl i], mW (n, T, h, t, x) M, 0, 0)) rfl ?_
    refine m_icmp rfl ⟨by omega, by omega⟩ ⟨by omega, by omega⟩ (fun (zc1 : n < i) => absurd zc1 (by omega)) (fun (zc1 : ¬ n < i) => ?_)
    refine m_run 3 (ps' := (19, [some (.inr (.inl 1)), some (.inl a), some (.inl b), some (.inl c), some (.inl i), none], [.inl i, .inl a, .inr (.inl 1)], mW (n, T, h, t, x) M, 0, 0)) rfl ?_
    refine m_callVF [.inl a, .inl i] [] rfl rfl ⟨_, rfl, rfl⟩ rfl rfl (k_lt (l := a) (i := i) hR ha ⟨by omega, by omega⟩) ?_
    have zt1 := ltC_in (p := a) (i := i) hn hR.tb
    unfold NP at zt1
    show m_Sem X 33 (22, [some (.inr (.inl 1)), some (.inl a), some (.inl b), some (.inl c), some (.inl i), none], [.inl (ltC n tb a i)], mW (n, T, h, t, x) M, 0, 0) _
    refine m_run 4 (ps' := (28, [some (.inr (.inl 1)), some (.inl a), some (.inl b), some (.inl c), some (.inl i), some (.inl (ltC n tb a i))], [.inl (ltC n tb a i), .inl b, .inr (.inl 1)], mW (n, T, h, t, x) M, 0, 0)) rfl ?_
    refine m_callVF [.inl b, .inl (ltC n tb a i)] [] rfl rfl ⟨_, rfl, rfl⟩ rfl rfl (k_on (p := b) (l := (ltC n tb a i)) hR hb ⟨by omega, by omega⟩) ?_
    show m_Sem X 33 (31, [some (.inr (.inl 1)), some (.inl a), some (.inl b), some (.inl c), some (.inl i), some (.inl (ltC n tb a i))], [.inl (bI (onC n tb b (ltC n tb a i)))], mW (n, T, h, t, x) M, 0, 0) _
    refine m_if rfl (bI_R (onC n tb b (ltC n tb a i))) (fun (zc2 : (bI (onC n tb b (ltC n tb a i))) = 0) => ?_) (fun (zc2 : ¬ (bI (onC n tb b (ltC n tb a i))) = 0) => ?_)
    · replace zc2 : (onC n tb b (ltC n tb a i)) = false := bI_e0.mp zc2
      refine m_run 2 (ps' := (3, [some (.inr (.inl 1)), some (.inl a), some (.inl b), some (.inl c), some (.inl (i + 1)), some (.inl (ltC n tb a i))], [], mW (n, T, h, t, x) M, 0, 0)) rfl ?_
      refine m_weak [some (.inr (.inl 1)), some (.inl a), some (.inl b), some (.inl c), some (.inl (i + 1)), none] ⟨rfl, ⟨rfl, ⟨rfl, ⟨rfl, ⟨rfl, trivial⟩⟩⟩⟩⟩ ?_
      have hh : olF n tb a b c i = true := by unfold olF; simp [*]
      rw [all_t hi2 hh] at ho
      exact ih ho
    · replace zc2 : (onC n tb b (ltC n tb a i)) = true := bI_n0.mp zc2
      refine m_run 3 (ps' := (38, [some (.inr (.inl 1)), some (.inl a), some (.inl b), some (.inl c), some (.inl i), some (.inl (ltC n tb a i))], [.inl (ltC n tb a i), .inl c, .inr (.inl 1)], mW (n, T, h, t, x) M, 0, 0)) rfl ?_
      refine m_callVF [.inl c, .inl (ltC n tb a i)] [] rfl rfl ⟨_, rfl, rfl⟩ rfl rfl (k_on (p := c) (l := (ltC n tb a i)) hR hc ⟨by omega, by omega⟩) ?_
      show m_Sem X 33 (41, [some (.inr (.inl 1)), some (.inl a), some (.inl b), some (.inl c), some (.inl i), some (.inl (ltC n tb a i))], [.inl (bI (onC n tb c (ltC n tb a i)))], mW (n, T, h, t, x) M, 0, 0) _
      refine m_if rfl (bI_R (onC n tb c (ltC n tb a i))) (fun (zc3 : (bI (onC n tb c (ltC n tb a i))) = 0) => ?_) (fun (zc3 : ¬ (bI (onC n tb c (ltC n tb a i))) = 0) => ?_)
      · replace zc3 : (onC n tb c (ltC n tb a i)) = false := bI_e0.mp zc3
        refine m_run 2 (ps' := (3, [some (.inr (.inl 1)), some (.inl a), some (.inl b), some (.inl c), some (.inl (i + 1)), some (.inl (ltC n tb a i))], [], mW (n, T, h, t, x) M, 0, 0)) rfl ?_
        refine m_weak [some (.inr (.inl 1)), some (.inl a), some (.inl b), some (.inl c), some (.inl (i + 1)), none] ⟨rfl, ⟨rfl, ⟨rfl, ⟨rfl, ⟨rfl, trivial⟩⟩⟩⟩⟩ ?_
        have hh : olF n tb a b c i = true := by unfold olF; simp [*]
        rw [all_t hi2 hh] at ho
        exact ih ho
      · replace zc3 : (onC n tb c (ltC n tb a i)) = true := bI_n0.mp zc3
        refine m_run 1 (ps' := (45, [some (.inr (.inl 1)), some (.inl a), some (.inl b), some (.inl c), some (.inl i), some (.inl (ltC n tb a i))], [.inl 1], mW (n, T, h, t, x) M, 0, 0)) rfl ?_
        exact m_ret1 rfl (Or.inr ⟨rfl, Or.inr rfl⟩) rfl (m_Vb (by
          have hh : olF n tb a b c i = false := by unfold olF; rw [zc2, zc3]; rfl
          rw [all_f hi2 hh] at ho
          subst ho
          rfl))
set_option maxHeartbeats 4000000 in
set_option maxRecDepth 100000 in
theorem k_ol {X : Nat × Nat × (Nat → Int32)} {n : Int} {T : Int → Int} {h : HS} {t : TS} {x : XS} {M : MS} {tb : Int → Int → Int} (hR : repC n T tb) {a b c : Int} (ha : m_R a) (hb : m_R b) (hc : m_R c) : m_Run X 33 [.inr (.inl 1), .inl a, .inl b, .inl c] (mW (n, T, h, t, x) M) (m_V (bI (olC n tb a b c)) (mW (n, T, h, t, x) M)) := by
  have hn := hR.1
  have hl := okN_lo hn
  have hq := sq_b hn
  show m_Sem X 33 (0, [some (.inr (.inl 1)), some (.inl a), some (.inl b), some (.inl c), none, none], [], mW (n, T, h, t, x) M, 0, 0) _
  refine m_run 2 (ps' := (3, [some (.inr (.inl 1)), some (.inl a), some (.inl b), some (.inl c), some (.inl 0), none], [], mW (n, T, h, t, x) M, 0, 0)) rfl ?_
  refine m_weak [some (.inr (.inl 1)), some (.inl a), some (.inl b), some (.inl c), some (.inl 0), none] ⟨rfl, ⟨rfl, ⟨rfl, ⟨rfl, ⟨rfl, trivial⟩⟩⟩⟩⟩ ?_
  exact l_ol hR ha hb hc 0 (by omega) (by omega) (by rw [z_sub])
def triC (n : Int) (tb : Int → Int → Int) (p l m k i j : Int) : Int :=
  let f1 := ltC n tb p l
  let f2 := ltC n tb p m
  let f3 := ltC n tb p k
  let a := pbC n tb f1 p i
  let b := pbC n tb f2 p i
  let c := pbC n tb f3 p i
  let d := pbC n tb f1 p j
  let e := pbC n tb f2 p j
  let f := pbC n tb f3 p j
  if olC n tb a b c = true then -1000002 else if olC n tb d e f = true then -1000002
  else bI (olC n tb (crC n tb a b d e) (crC n tb a c d f) (crC n tb b c e f))
def hexC (n : Int) (tb : Int → Int → Int) (l m : Int) : Bool :=
  let z := mtC n tb l m
  let a := pbC n tb l z 0
  let b := pbC n tb l z 1
  let c := pbC n tb l z 2
  let d := pbC n tb m z 0
  let e := pbC n tb m z 1
  let f := pbC n tb m z 2
  olC n tb (crC n tb a e b d) (crC n tb a f c d) (crC n tb b f c e)
set_option maxHeartbeats 4000000 in
set_option maxRecDepth 100000 in
theorem k_tri {X : Nat × Nat × (Nat → Int32)} {n : Int} {T : Int → Int} {h : HS} {t : TS} {x : XS} {M : MS} {tb : Int → Int → Int} (hR : repC n T tb) {p l m k i j : Int} (hp : m_R p) (hll : m_R l) (hm : m_R m) (hk : m_R k) (hi : -1 ≤ i ∧ i ≤ 100) (hj : -1 ≤ j ∧ j ≤ 100) : m_Run X 34 [.inr (.inl 1), .inl p, .inl l, .inl m, .inl k, .inl i, .inl j] (mW (n, T, h, t, x) M) (m_V (triC n tb p l m k i j) (mW (n, T, h, t, x) M)) := by
  have hn := hR.1
  have hl := okN_lo hn
  have hq := sq_b hn
  show m_Sem X 34 (0, [some (.inr (.inl 1)), some (.inl p), some (.inl l), some (.inl m), some (.inl k), some (.inl i), some (.inl j), none, none, none, none, none, none, none, none, none], [], mW (n, T, h, t, x) M, 0, 0) _
  refine m_run 3 (ps' := (3, [some (.inr (.inl 1)), some (.inl p), some (.inl l), some (.inl m), some (.inl k), some (.inl i), some (.inl j), none, none, none, none, none, none, none, none, none], [.inl l, .inl p, .inr (.inl 1)], mW (n, T, h, t, x) M, 0, 0)) rfl ?_
  refine m_callVF [.inl p, .inl l] [] rfl rfl ⟨_, rfl, rfl⟩ rfl rfl (k_lt (l := p) (i := l) hR hp hll) ?_
  have zt1 := ltC_in (p := p) (i := l) hn hR.tb
  unfold NP at zt1
  show m_Sem X 34 (6, [some (.inr (.inl 1)), some (.inl p), some (.inl l), some (.inl m), some (.inl k), some (.inl i), some (.inl j), none, none, none, none, none, none, none, none, none], [.inl (ltC n tb p l)], mW (n, T, h, t, x) M, 0, 0) _
  refine m_run 4 (ps' := (11, [some (.inr (.inl 1)), some (.inl p), some (.inl l), some (.inl m), some (.inl k), some (.inl i), some (.inl j), some (.inl (ltC n tb p l)), none, none, none, none, none, none, none, none], [.inl m, .inl p, .inr (.inl 1)], mW (n, T, h, t, x) M, 0, 0)) rfl ?_
  refine m_callVF [.inl p, .inl m] [] rfl rfl ⟨_, rfl, rfl⟩ rfl rfl (k_lt (l := p) (i := m) hR hp hm) ?_
  have zt2 := ltC_in (p := p) (i := m) hn hR.tb
  unfold NP at zt2
  show m_Sem X 34 (14, [some (.inr (.inl 1)), some (.inl p), some (.inl l), some (.inl m), some (.inl k), some (.inl i), some (.inl j), some (.inl (ltC n tb p l)), none, none, none, none, none, none, none, none], [.inl (ltC n tb p m)], mW (n, T, h, t, x) M, 0, 0) _
  refine m_run 4 (ps' := (20, [some (.inr (.inl 1)), some (.inl p), some (.inl l), some (.inl m), some (.inl k), some (.inl i), some (.inl j), some (.inl (ltC n tb p l)), some (.inl (ltC n tb p m)), none, none, none, none, none, none, none], [.inl k, .inl p, .inr (.inl 1)], mW (n, T, h, t, x) M, 0, 0)) rfl ?_
  refine m_callVF [.inl p, .inl k] [] rfl rfl ⟨_, rfl, rfl⟩ rfl rfl (k_lt (l := p) (i := k) hR hp hk) ?_
  have zt3 := ltC_in (p := p) (i := k) hn hR.tb
  unfold NP at zt3
  show m_Sem X 34 (23, [some (.inr (.inl 1)), some (.inl p), some (.inl l), some (.inl m), some (.inl k), some (.inl i), some (.inl j), some (.inl (ltC n tb p l)), some (.inl (ltC n tb p m)), none, none, none, none, none, none, none], [.inl (ltC n tb p k)], mW (n, T, h, t, x) M, 0, 0) _
  refine m_run 5 (ps' := (31, [some (.inr (.inl 1)), some (.inl p), some (.inl l), some (.inl m), some (.inl k), some (.inl i), some (.inl j), some (.inl (ltC n tb p l)), some (.inl (ltC n tb p m)), some (.inl (ltC n tb p k)), none, none, none, none, none, none], [.inl i, .inl p, .inl (ltC n tb p l), .inr (.inl 1)], mW (n, T, h, t, x) M, 0, 0)) rfl ?_
  refine m_callVF [.inl (ltC n tb p l), .inl p, .inl i] [] rfl rfl ⟨_, rfl, rfl⟩ rfl rfl (k_pb (l := (ltC n tb p l)) (o := p) (i := i) hR ⟨by omega, by omega⟩ hp ⟨by omega, by omega⟩ ⟨by omega, by omega⟩) ?_
  have zt4 := pbC_in (l := (ltC n tb p l)) (o := p) (i := i) hn hR.tb
  unfold NP at zt4
  show m_Sem X 34 (34, [some (.inr (.inl 1)), some (.inl p), some (.inl l), some (.inl m), some (.inl k), some (.inl i), some (.inl j), some (.inl (ltC n tb p l)), some (.inl (ltC n tb p m)), some (.inl (ltC n tb p k)), none, none, none, none, none, none], [.inl (pbC n tb (ltC n tb p l) p i)], mW (n, T, h, t, x) M, 0, 0) _
  refine m_run 5 (ps' := (42, [some (.inr (.inl 1)), some (.inl p), some (.inl l), some (.inl m), some (.inl k), some (.inl i), some (.inl j), some (.inl (ltC n tb p l)), some (.inl (ltC n tb p m)), some (.inl (ltC n tb p k)), some (.inl (pbC n tb (ltC n tb p l) p i)), none, none, none, none, none], [.inl i, .inl p, .inl (ltC n tb p m), .inr (.inl 1)], mW (n, T, h, t, x) M, 0, 0)) rfl ?_
  refine m_callVF [.inl (ltC n tb p m), .inl p, .inl i] [] rfl rfl ⟨_, rfl, rfl⟩ rfl rfl (k_pb (l := (ltC n tb p m)) (o := p) (i := i) hR ⟨by omega, by omega⟩ hp ⟨by omega, by omega⟩ ⟨by omega, by omega⟩) ?_
  have zt5 := pbC_in (l := (ltC n tb p m)) (o := p) (i := i) hn hR.tb
  unfold NP at zt5
  show m_Sem X 34 (45, [some (.inr (.inl 1)), some (.inl p), some (.inl l), some (.inl m), some (.inl k), some (.inl i), some (.inl j), some (.inl (ltC n tb p l)), some (.inl (ltC n tb p m)), some (.inl (ltC n tb p k)), some (.inl (pbC n tb (ltC n tb p l) p i)), none, none, none, none, none], [.inl (pbC n tb (ltC n tb p m) p i)], mW (n, T, h, t, x) M, 0, 0) _
  refine m_run 5 (ps' := (53, [some (.inr (.inl 1)), some (.inl p), some (.inl l), some (.inl m), some (.inl k), some (.inl i), some (.inl j), some (.inl (ltC n tb p l)), some (.inl (ltC n tb p m)), some (.inl (ltC n tb p k)), some (.inl (pbC n tb (ltC n tb p l) p i)), some (.inl (pbC n tb (ltC n tb p m) p i)), none, none, none, none], [.inl i, .inl p, .inl (ltC n tb p k), .inr (.inl 1)], mW (n, T, h, t, x) M, 0, 0)) rfl ?_
  refine m_callVF [.inl (ltC n tb p k), .inl p, .inl i] [] rfl rfl ⟨_, rfl, rfl⟩ rfl rfl (k_pb (l := (ltC n tb p k)) (o := p) (i := i) hR ⟨by omega, by omega⟩ hp ⟨by omega, by omega⟩ ⟨by omega, by omega⟩) ?_
  have zt6 := pbC_in (l := (ltC n tb p k)) (o := p) (i := i) hn hR.tb
  unfold NP at zt6
  show m_Sem X 34 (56, [some (.inr (.inl 1)), some (.inl p), some (.inl l), some (.inl m), some (.inl k), some (.inl i), some (.inl j), some (.inl (ltC n tb p l)), some (.inl (ltC n tb p m)), some (.inl (ltC n tb p k)), some (.inl (pbC n tb (ltC n tb p l) p i)), some (.inl (pbC n tb (ltC n tb p m) p i)), none, none, none, none], [.inl (pbC n tb (ltC n tb p k) p i)], mW (n, T, h, t, x) M, 0, 0) _
  refine m_run 5 (ps' := (64, [some (.inr (.inl 1)), some (.inl p), some (.inl l), some (.inl m), some (.inl k), some (.inl i), some (.inl j), some (.inl (ltC n tb p l)), some (.inl (ltC n tb p m)), some (.inl (ltC n tb p k)), some (.inl (pbC n tb (ltC n tb p l) p i)), some (.inl (pbC n tb (ltC n tb p m) p i)), some (.inl (pbC n tb (ltC n tb p k) p i)), none, none, none], [.inl j, .inl p, .inl (ltC n tb p l), .inr (.inl 1)], mW (n, T, h, t, x) M, 0, 0)) rfl ?_
  refine m_callVF [.inl (ltC n tb p l), .inl p, .inl j] [] rfl rfl ⟨_, rfl, rfl⟩ rfl rfl (k_pb (l := (ltC n tb p l)) (o := p) (i := j) hR ⟨by omega, by omega⟩ hp ⟨by omega, by omega⟩ ⟨by omega, by omega⟩) ?_
  have zt7 := pbC_in (l := (ltC n tb p l)) (o := p) (i := j) hn hR.tb
  unfold NP at zt7
  show m_Sem X 34 (67, [some (.inr (.inl 1)), some (.inl p), some (.inl l), some (.inl m), some (.inl k), some (.inl i), some (.inl j), some (.inl (ltC n tb p l)), some (.inl (ltC n tb p m)), some (.inl (ltC n tb p k)), some (.inl (pbC n tb (ltC n tb p l) p i)), some (.inl (pbC n tb (ltC n tb p m) p i)), some (.inl (pbC n tb (ltC n tb p k) p i)), none, none, none], [.inl (pbC n tb (ltC n tb p l) p j)], mW (n, T, h, t, x) M, 0, 0) _
  refine m_run 5 (ps' := (75, [some (.inr (.inl 1)), some (.inl p), some (.inl l), some (.inl m), some (.inl k), some (.inl i), some (.inl j), some (.inl (ltC n tb p l)), some (.inl (ltC n tb p m)), some (.inl (ltC n tb p k)), some (.inl (pbC n tb (ltC n tb p l) p i)), some (.inl (pbC n tb (ltC n tb p m) p i)), some (.inl (pbC n tb (ltC n tb p k) p i)), some (.inl (pbC n tb (ltC n tb p l) p j)), none, none], [.inl j, .inl p, .inl (ltC n tb p m), .inr (.inl 1)], mW (n, T, h, t, x) M, 0, 0)) rfl ?_
  refine m_callVF [.inl (ltC n tb p m), .inl p, .inl j] [] rfl rfl ⟨_, rfl, rfl⟩ rfl rfl (k_pb (l := (ltC n tb p m)) (o := p) (i := j) hR ⟨by omega, by omega⟩ hp ⟨by omega, by omega⟩ ⟨by omega, by omega⟩) ?_
  have zt8 := pbC_in (l := (ltC n tb p m)) (o := p) (i := j) hn hR.tb
  unfold NP at zt8
  show m_Sem X 34 (78, [some (.inr (.inl 1)), some (.inl p), some (.inl l), some (.inl m), some (.inl k), some (.inl i), some (.inl j), some (.inl (ltC n tb p l)), some (.inl (ltC n tb p m)), some (.inl (ltC n tb p k)), some (.inl (pbC n tb (ltC n tb p l) p i)), some (.inl (pbC n tb (ltC n tb p m) p i)), some (.inl (pbC n tb (ltC n tb p k) p i)), some (.inl (pbC n tb (ltC n tb p l) p j)), none, none], [.inl (pbC n tb (ltC n tb p m) p j)], mW (n, T, h, t, x) M, 0, 0) _
  refine m_run 5 (ps' := (86, [some (.inr (.inl 1)), some (.inl p), some (.inl l), some (.inl m), some (.inl k), some (.inl i), some (.inl j), some (.inl (ltC n tb p l)), some (.inl (ltC n tb p m)), some (.inl (ltC n tb p k)), some (.inl (pbC n tb (ltC n tb p l) p i)), some (.inl (pbC n tb (ltC n tb p m) p i)), some (.inl (pbC n tb (ltC n tb p k) p i)), some (.inl (pbC n tb (ltC n tb p l) p j)), some (.inl (pbC n tb (ltC n tb p m) p j)), none], [.inl j, .inl p, .inl (ltC n tb p k), .inr (.inl 1)], mW (n, T, h, t, x) M, 0, 0)) rfl ?_
  refine m_callVF [.inl (ltC n tb p k), .inl p, .inl j] [] rfl rfl ⟨_, rfl, rfl⟩ rfl rfl (k_pb (l := (ltC n tb p k)) (o := p) (i := j) hR ⟨by omega, by omega⟩ hp ⟨by omega, by omega⟩ ⟨by omega, by omega⟩) ?_
  have zt9 := pbC_in (l := (ltC n tb p k)) (o := p) (i := j) hn hR.tb
  unfold NP at zt9
  show m_Sem X 34 (89, [some (.inr (.inl 1)), some (.inl p), some (.inl l), some (.inl m), some (.inl k), some (.inl i), some (.inl j), some (.inl (ltC n tb p l)), some (.inl (ltC n tb p m)), some (.inl (ltC n tb p k)), some (.inl (pbC n tb (ltC n tb p l) p i)), some (.inl (pbC n tb (ltC n tb p m) p i)), some (.inl (pbC n tb (ltC n tb p k) p i)), some (.inl (pbC n tb (ltC n tb p l) p j)), some (.inl (pbC n tb (ltC n tb p m) p j)), none], [.inl (pbC n tb (ltC n tb p k) p j)], mW (n, T, h, t, x) M, 0, 0) _
  refine m_run 5 (ps' := (98, [some (.inr (.inl 1)), some (.inl p), some (.inl l), some (.inl m), some (.inl k), some (.inl i), some (.inl j), some (.inl (ltC n tb p l)), some (.inl (ltC n tb p m)), some (.inl (ltC n tb p k)), some (.inl (pbC n tb (ltC n tb p l) p i)), some (.inl (pbC n tb (ltC n tb p m) p i)), some (.inl (pbC n tb (ltC n tb p k) p i)), some (.inl (pbC n tb (ltC n tb p l) p j)), some (.inl (pbC n tb (ltC n tb p m) p j)), some (.inl (pbC n tb (ltC n tb p k) p j))], [.inl (pbC n tb (ltC n tb p k) p i), .inl (pbC n tb (ltC n tb p m) p i), .inl (pbC n tb (ltC n tb p l) p i), .inr (.inl 1)], mW (n, T, h, t, x) M, 0, 0)) rfl ?_
  refine m_callVF [.inl (pbC n tb (ltC n tb p l) p i), .inl (pbC n tb (ltC n tb p m) p i), .inl (pbC n tb (ltC n tb p k) p i)] [] rfl rfl ⟨_, rfl, rfl⟩ rfl rfl (k_ol (a := (pbC n tb (ltC n tb p l) p i)) (b := (pbC n tb (ltC n tb p m) p i)) (c := (pbC n tb (ltC n tb p k) p i)) hR ⟨by omega, by omega⟩ ⟨by omega, by omega⟩ ⟨by omega, by omega⟩) ?_
  show m_Sem X 34 (101, [some (.inr (.inl 1)), some (.inl p), some (.inl l), some (.inl m), some (.inl k), some (.inl i), some (.inl j), some (.inl (ltC n tb p l)), some (.inl (ltC n tb p m)), some (.inl (ltC n tb p k)), some (.inl (pbC n tb (ltC n tb p l) p i)), some (.inl (pbC n tb (ltC n tb p m) p i)), some (.inl (pbC n tb (ltC n tb p k) p i)), some (.inl (pbC n tb (ltC n tb p l) p j)), some (.inl (pbC n tb (ltC n tb p m) p j)), some (.inl (pbC n tb (ltC n tb p k) p j))], [.inl (bI (olC n tb (pbC n tb (ltC n tb p l) p i) (pbC n tb (ltC n tb p m) p i) (pbC n tb (ltC n tb p k) p i)))], mW (n, T, h, t, x) M, 0, 0) _
  refine m_if rfl (bI_R (olC n tb (pbC n tb (ltC n tb p l) p i) (pbC n tb (ltC n tb p m) p i) (pbC n tb (ltC n tb p k) p i))) (fun (zc1 : ¬ (bI (olC n tb (pbC n tb (ltC n tb p l) p i) (pbC n tb (ltC n tb p m) p i) (pbC n tb (ltC n tb p k) p i))) = 0) => ?_) (fun (zc1 : ¬ ¬ (bI (olC n tb (pbC n tb (ltC n tb p l) p i) (pbC n tb (ltC n tb p m) p i) (pbC n tb (ltC n tb p k) p i))) = 0) => ?_)
  · replace zc1 : (olC n tb (pbC n tb (ltC n tb p l) p i) (pbC n tb (ltC n tb p m) p i) (pbC n tb (ltC n tb p k) p i)) = true := bI_n0.mp zc1
    refine m_run 1 (ps' := (119, [some (.inr (.inl 1)), some (.inl p), some (.inl l), some (.inl m), some (.inl k), some (.inl i), some (.inl j), some (.inl (ltC n tb p l)), some (.inl (ltC n tb p m)), some (.inl (ltC n tb p k)), some (.inl (pbC n tb (ltC n tb p l) p i)), some (.inl (pbC n tb (ltC n tb p m) p i)), some (.inl (pbC n tb (ltC n tb p k) p i)), some (.inl (pbC n tb (ltC n tb p l) p j)), some (.inl (pbC n tb (ltC n tb p m) p j)), some (.inl (pbC n tb (ltC n tb p k) p j))], [.inl (-1000002)], mW (n, T, h, t, x) M, 0, 0)) rfl ?_
    exact m_ret1 rfl (Or.inl rfl) rfl (m_Vi (by show _ = (if _ then _ else if _ then _ else _); simp [*]))
  · replace zc1 : (olC n tb (pbC n tb (ltC n tb p l) p i) (pbC n tb (ltC n tb p m) p i) (pbC n tb (ltC n tb p k) p i)) = false := bI_e0.mp (Decidable.not_not.mp zc1)
    refine m_run 4 (ps' := (111, [some (.inr (.inl 1)), some (.inl p), some (.inl l), some (.inl m), some (.inl k), some (.inl i), some (.inl j), some (.inl (ltC n tb p l)), some (.inl (ltC n tb p m)), some (.inl (ltC n tb p k)), some (.inl (pbC n tb (ltC n tb p l) p i)), some (.inl (pbC n tb (ltC n tb p m) p i)), some (.inl (pbC n tb (ltC n tb p k) p i)), some (.inl (pbC n tb (ltC n tb p l) p j)), some (.inl (pbC n tb (ltC n tb p m) p j)), some (.inl (pbC n tb (ltC n tb p k) p j))], [.inl (pbC n tb (ltC n tb p k) p j), .inl (pbC n tb (ltC n tb p m) p j), .inl (pbC n tb (ltC n tb p l) p j), .inr (.inl 1)], mW (n, T, h, t, x) M, 0, 0)) rfl ?_
    refine m_callVF [.inl (pbC n tb (ltC n tb p l) p j), .inl (pbC n tb (ltC n tb p m) p j), .inl (pbC n tb (ltC n tb p k) p j)] [] rfl rfl ⟨_, rfl, rfl⟩ rfl rfl (k_ol (a := (pbC n tb (ltC n tb p l) p j)) (b := (pbC n tb (ltC n tb p m) p j)) (c := (pbC n tb (ltC n tb p k) p j)) hR ⟨by omega, by omega⟩ ⟨by omega, by omega⟩ ⟨by omega, by omega⟩) ?_
    show m_Sem X 34 (114, [some (.inr (.inl 1)), some (.inl p), some (.inl l), some (.inl m), some (.inl k), some (.inl i), some (.inl j), some (.inl (ltC n tb p l)), some (.inl (ltC n tb p m)), some (.inl (ltC n tb p k)), some (.inl (pbC n tb (ltC n tb p l) p i)), some (.inl (pbC n tb (ltC n tb p m) p i)), some (.inl (pbC n tb (ltC n tb p k) p i)), some (.inl (pbC n tb (ltC n tb p l) p j)), some (.inl (pbC n tb (ltC n tb p m) p j)), some (.inl (pbC n tb (ltC n tb p k) p j))], [.inl (bI (olC n tb (pbC n tb (ltC n tb p l) p j) (pbC n tb (ltC n tb p m) p j) (pbC n tb (ltC n tb p k) p j)))], mW (n, T, h, t, x) M, 0, 0) _
    refine m_if rfl (bI_R (olC n tb (pbC n tb (ltC n tb p l) p j) (pbC n tb (ltC n tb p m) p j) (pbC n tb (ltC n tb p k) p j))) (fun (zc2 : (bI (olC n tb (pbC n tb (ltC n tb p l) p j) (pbC n tb (ltC n tb p m) p j) (pbC n tb (ltC n tb p k) p j))) = 0) => ?_) (fun (zc2 : ¬ (bI (olC n tb (pbC n tb (ltC n tb p l) p j) (pbC n tb (ltC n tb p m) p j) (pbC n tb (ltC n tb p k) p j))) = 0) => ?_)
    · replace zc2 : (olC n tb (pbC n tb (ltC n tb p l) p j) (pbC n tb (ltC n tb p m) p j) (pbC n tb (ltC n tb p k) p j)) = false := bI_e0.mp zc2
      refine m_run 6 (ps' := (130, [some (.inr (.inl 1)), some (.inl p), some (.inl l), some (.inl m), some (.inl k), some (.inl i), some (.inl j), some (.inl (ltC n tb p l)), some (.inl (ltC n tb p m)), some (.inl (ltC n tb p k)), some (.inl (pbC n tb (ltC n tb p l) p i)), some (.inl (pbC n tb (ltC n tb p m) p i)), some (.inl (pbC n tb (ltC n tb p k) p i)), some (.inl (pbC n tb (ltC n tb p l) p j)), some (.inl (pbC n tb (ltC n tb p m) p j)), some (.inl (pbC n tb (ltC n tb p k) p j))], [.inl (pbC n tb (ltC n tb p m) p j), .inl (pbC n tb (ltC n tb p l) p j), .inl (pbC n tb (ltC n tb p m) p i), .inl (pbC n tb (ltC n tb p l) p i), .inr (.inl 1), .inr (.inl 1)], mW (n, T, h, t, x) M, 0, 0)) rfl ?_
      refine m_callVF [.inl (pbC n tb (ltC n tb p l) p i), .inl (pbC n tb (ltC n tb p m) p i), .inl (pbC n tb (ltC n tb p l) p j), .inl (pbC n tb (ltC n tb p m) p j)] [.inr (.inl 1)] rfl rfl ⟨_, rfl, rfl⟩ rfl rfl (k_cr (a := (pbC n tb (ltC n tb p l) p i)) (b := (pbC n tb (ltC n tb p m) p i)) (c := (pbC n tb (ltC n tb p l) p j)) (d := (pbC n tb (ltC n tb p m) p j)) hR ⟨by omega, by omega⟩ ⟨by omega, by omega⟩ ⟨by omega, by omega⟩ ⟨by omega, by omega⟩) ?_
      have zt10 := mtC_in (n := n) (tb := tb) (p := lnC n tb (pbC n tb (ltC n tb p l) p i) (pbC n tb (ltC n tb p m) p i)) (q := lnC n tb (pbC n tb (ltC n tb p l) p j) (pbC n tb (ltC n tb p m) p j))
      unfold NP at zt10
      rw [show mtC n tb (lnC n tb (pbC n tb (ltC n tb p l) p i) (pbC n tb (ltC n tb p m) p i)) (lnC n tb (pbC n tb (ltC n tb p l) p j) (pbC n tb (ltC n tb p m) p j)) = crC n tb (pbC n tb (ltC n tb p l) p i) (pbC n tb (ltC n tb p m) p i) (pbC n tb (ltC n tb p l) p j) (pbC n tb (ltC n tb p m) p j) from rfl] at zt10
      show m_Sem X 34 (133, [some (.inr (.inl 1)), some (.inl p), some (.inl l), some (.inl m), some (.inl k), some (.inl i), some (.inl j), some (.inl (ltC n tb p l)), some (.inl (ltC n tb p m)), some (.inl (ltC n tb p k)), some (.inl (pbC n tb (ltC n tb p l) p i)), some (.inl (pbC n tb (ltC n tb p m) p i)), some (.inl (pbC n tb (ltC n tb p k) p i)), some (.inl (pbC n tb (ltC n tb p l) p j)), some (.inl (pbC n tb (ltC n tb p m) p j)), some (.inl (pbC n tb (ltC n tb p k) p j))], [.inl (crC n tb (pbC n tb (ltC n tb p l) p i) (pbC n tb (ltC n tb p m) p i) (pbC n tb (ltC n tb p l) p j) (pbC n tb (ltC n tb p m) p j)), .inr (.inl 1)], mW (n, T, h, t, x) M, 0, 0) _
      refine m_run 5 (ps' := (142, [some (.inr (.inl 1)), some (.inl p), some (.inl l), some (.inl m), some (.inl k), some (.inl i), some (.inl j), some (.inl (ltC n tb p l)), some (.inl (ltC n tb p m)), some (.inl (ltC n tb p k)), some (.inl (pbC n tb (ltC n tb p l) p i)), some (.inl (pbC n tb (ltC n tb p m) p i)), some (.inl (pbC n tb (ltC n tb p k) p i)), some (.inl (pbC n tb (ltC n tb p l) p j)), some (.inl (pbC n tb (ltC n tb p m) p j)), some (.inl (pbC n tb (ltC n tb p k) p j))], [.inl (pbC n tb (ltC n tb p k) p j), .inl (pbC n tb (ltC n tb p l) p j), .inl (pbC n tb (ltC n tb p k) p i), .inl (pbC n tb (ltC n tb p l) p i), .inr (.inl 1), .inl (crC n tb (pbC n tb (ltC n tb p l) p i) (pbC n tb (ltC n tb p m) p i) (pbC n tb (ltC n tb p l) p j) (pbC n tb (ltC n tb p m) p j)), .inr (.inl 1)], mW (n, T, h, t, x) M, 0, 0)) rfl ?_
      refine m_callVF [.inl (pbC n tb (ltC n tb p l) p i), .inl (pbC n tb (ltC n tb p k) p i), .inl (pbC n tb (ltC n tb p l) p j), .inl (pbC n tb (ltC n tb p k) p j)] [.inl (crC n tb (pbC n tb (ltC n tb p l) p i) (pbC n tb (ltC n tb p m) p i) (pbC n tb (ltC n tb p l) p j) (pbC n tb (ltC n tb p m) p j)), .inr (.inl 1)] rfl rfl ⟨_, rfl, rfl⟩ rfl rfl (k_cr (a := (pbC n tb (ltC n tb p l) p i)) (b := (pbC n tb (ltC n tb p k) p i)) (c := (pbC n tb (ltC n tb p l) p j)) (d := (pbC n tb (ltC n tb p k) p j)) hR ⟨by omega, by omega⟩ ⟨by omega, by omega⟩ ⟨by omega, by omega⟩ ⟨by omega, by omega⟩) ?_
      have zt11 := mtC_in (n := n) (tb := tb) (p := lnC n tb (pbC n tb (ltC n tb p l) p i) (pbC n tb (ltC n tb p k) p i)) (q := lnC n tb (pbC n tb (ltC n tb p l) p j) (pbC n tb (ltC n tb p k) p j))
      unfold NP at zt11
      rw [show mtC n tb (lnC n tb (pbC n tb (ltC n tb p l) p i) (pbC n tb (ltC n tb p k) p i)) (lnC n tb (pbC n tb (ltC n tb p l) p j) (pbC n tb (ltC n tb p k) p j)) = crC n tb (pbC n tb (ltC n tb p l) p i) (pbC n tb (ltC n tb p k) p i) (pbC n tb (ltC n tb p l) p j) (pbC n tb (ltC n tb p k) p j) from rfl] at zt11
      show m_Sem X 34 (145, [some (.inr (.inl 1)), some (.inl p), some (.inl l), some (.inl m), some (.inl k), some (.inl i), some (.inl j), some (.inl (ltC n tb p l)), some (.inl (ltC n tb p m)), some (.inl (ltC n tb p k)), some (.inl (pbC n tb (ltC n tb p l) p i)), some (.inl (pbC n tb (ltC n tb p m) p i)), some (.inl (pbC n tb (ltC n tb p k) p i)), some (.inl (pbC n tb (ltC n tb p l) p j)), some (.inl (pbC n tb (ltC n tb p m) p j)), some (.inl (pbC n tb (ltC n tb p k) p j))], [.inl (crC n tb (pbC n tb (ltC n tb p l) p i) (pbC n tb (ltC n tb p k) p i) (pbC n tb (ltC n tb p l) p j) (pbC n tb (ltC n tb p k) p j)), .inl (crC n tb (pbC n tb (ltC n tb p l) p i) (pbC n tb (ltC n tb p m) p i) (pbC n tb (ltC n tb p l) p j) (pbC n tb (ltC n tb p m) p j)), .inr (.inl 1)], mW (n, T, h, t, x) M, 0, 0) _
      refine m_run 5 (ps' := (154, [some (.inr (.inl 1)), some (.inl p), some (.inl l), some (.inl m), some (.inl k), some (.inl i), some (.inl j), some (.inl (ltC n tb p l)), some (.inl (ltC n tb p m)), some (.inl (ltC n tb p k)), some (.inl (pbC n tb (ltC n tb p l) p i)), some (.inl (pbC n tb (ltC n tb p m) p i)), some (.inl (pbC n tb (ltC n tb p k) p i)), some (.inl (pbC n tb (ltC n tb p l) p j)), some (.inl (pbC n tb (ltC n tb p m) p j)), some (.inl (pbC n tb (ltC n tb p k) p j))], [.inl (pbC n tb (ltC n tb p k) p j), .inl (pbC n tb (ltC n tb p m) p j), .inl (pbC n tb (ltC n tb p k) p i), .inl (pbC n tb (ltC n tb p m) p i), .inr (.inl 1), .inl (crC n tb (pbC n tb (ltC n tb p l) p i) (pbC n tb (ltC n tb p k) p i) (pbC n tb (ltC n tb p l) p j) (pbC n tb (ltC n tb p k) p j)), .inl (crC n tb (pbC n tb (ltC n tb p l) p i) (pbC n tb (ltC n tb p m) p i) (pbC n tb (ltC n tb p l) p j) (pbC n tb (ltC n tb p m) p j)), .inr (.inl 1)], mW (n, T, h, t, x) M, 0, 0)) rfl ?_
      refine m_callVF [.inl (pbC n tb (ltC n tb p m) p i), .inl (pbC n tb (ltC n tb p k) p i), .inl (pbC n tb (ltC n tb p m) p j), .inl (pbC n tb (ltC n tb p k) p j)] [.inl (crC n tb (pbC n tb (ltC n tb p l) p i) (pbC n tb (ltC n tb p k) p i) (pbC n tb (ltC n tb p l) p j) (pbC n tb (ltC n tb p k) p j)), .inl (crC n tb (pbC n tb (ltC n tb p l) p i) (pbC n tb (ltC n tb p m) p i) (pbC n tb (ltC n tb p l) p j) (pbC n tb (ltC n tb p m) p j)), .inr (.inl 1)] rfl rfl ⟨_, rfl, rfl⟩ rfl rfl (k_cr (a := (pbC n tb (ltC n tb p m) p i)) (b := (pbC n tb (ltC n tb p k) p i)) (c := (pbC n tb (ltC n tb p m) p j)) (d := (pbC n tb (ltC n tb p k) p j)) hR ⟨by omega, by omega⟩ ⟨by omega, by omega⟩ ⟨by omega, by omega⟩ ⟨by omega, by omega⟩) ?_
      have zt12 := mtC_in (n := n) (tb := tb) (p := lnC n tb (pbC n tb (ltC n tb p m) p i) (pbC n tb (ltC n tb p k) p i)) (q := lnC n tb (pbC n tb (ltC n tb p m) p j) (pbC n tb (ltC n tb p k) p j))
      unfold NP at zt12
      rw [show mtC n tb (lnC n tb (pbC n tb (ltC n tb p m) p i) (pbC n tb (ltC n tb p k) p i)) (lnC n tb (pbC n tb (ltC n tb p m) p j) (pbC n tb (ltC n tb p k) p j)) = crC n tb (pbC n tb (ltC n tb p m) p i) (pbC n tb (ltC n tb p k) p i) (pbC n tb (ltC n tb p m) p j) (pbC n tb (ltC n tb p k) p j) from rfl] at zt12
      show m_Sem X 34 (157, [some (.inr (.inl 1)), some (.inl p), some (.inl l), some (.inl m), some (.inl k), some (.inl i), some (.inl j), some (.inl (ltC n tb p l)), some (.inl (ltC n tb p m)), some (.inl (ltC n tb p k)), some (.inl (pbC n tb (ltC n tb p l) p i)), some (.inl (pbC n tb (ltC n tb p m) p i)), some (.inl (pbC n tb (ltC n tb p k) p i)), some (.inl (pbC n tb (ltC n tb p l) p j)), some (.inl (pbC n tb (ltC n tb p m) p j)), some (.inl (pbC n tb (ltC n tb p k) p j))], [.inl (crC n tb (pbC n tb (ltC n tb p m) p i) (pbC n tb (ltC n tb p k) p i) (pbC n tb (ltC n tb p m) p j) (pbC n tb (ltC n tb p k) p j)), .inl (crC n tb (pbC n tb (ltC n tb p l) p i) (pbC n tb (ltC n tb p k) p i) (pbC n tb (ltC n tb p l) p j) (pbC n tb (ltC n tb p k) p j)), .inl (crC n tb (pbC n tb (ltC n tb p l) p i) (pbC n tb (ltC n tb p m) p i) (pbC n tb (ltC n tb p l) p j) (pbC n tb (ltC n tb p m) p j)), .inr (.inl 1)], mW (n, T, h, t, x) M, 0, 0) _
      refine m_callVF [.inl (crC n tb (pbC n tb (ltC n tb p l) p i) (pbC n tb (ltC n tb p m) p i) (pbC n tb (ltC n tb p l) p j) (pbC n tb (ltC n tb p m) p j)), .inl (crC n tb (pbC n tb (ltC n tb p l) p i) (pbC n tb (ltC n tb p k) p i) (pbC n tb (ltC n tb p l) p j) (pbC n tb (ltC n tb p k) p j)), .inl (crC n tb (pbC n tb (ltC n tb p m) p i) (pbC n tb (ltC n tb p k) p i) (pbC n tb (ltC n tb p m) p j) (pbC n tb (ltC n tb p k) p j))] [] rfl rfl ⟨_, rfl, rfl⟩ rfl rfl (k_ol (a := (crC n tb (pbC n tb (ltC n tb p l) p i) (pbC n tb (ltC n tb p m) p i) (pbC n tb (ltC n tb p l) p j) (pbC n tb (ltC n tb p m) p j))) (b := (crC n tb (pbC n tb (ltC n tb p l) p i) (pbC n tb (ltC n tb p k) p i) (pbC n tb (ltC n tb p l) p j) (pbC n tb (ltC n tb p k) p j))) (c := (crC n tb (pbC n tb (ltC n tb p m) p i) (pbC n tb (ltC n tb p k) p i) (pbC n tb (ltC n tb p m) p j) (pbC n tb (ltC n tb p k) p j))) hR ⟨by omega, by omega⟩ ⟨by omega, by omega⟩ ⟨by omega, by omega⟩) ?_
      show m_Sem X 34 (160, [some (.inr (.inl 1)), some (.inl p), some (.inl l), some (.inl m), some (.inl k), some (.inl i), some (.inl j), some (.inl (ltC n tb p l)), some (.inl (ltC n tb p m)), some (.inl (ltC n tb p k)), some (.inl (pbC n tb (ltC n tb p l) p i)), some (.inl (pbC n tb (ltC n tb p m) p i)), some (.inl (pbC n tb (ltC n tb p k) p i)), some (.inl (pbC n tb (ltC n tb p l) p j)), some (.inl (pbC n tb (ltC n tb p m) p j)), some (.inl (pbC n tb (ltC n tb p k) p j))], [.inl (bI (olC n tb (crC n tb (pbC n tb (ltC n tb p l) p i) (pbC n tb (ltC n tb p m) p i) (pbC n tb (ltC n tb p l) p j) (pbC n tb (ltC n tb p m) p j)) (crC n tb (pbC n tb (ltC n tb p l) p i) (pbC n tb (ltC n tb p k) p i) (pbC n tb (ltC n tb p l) p j) (pbC n tb (ltC n tb p k) p j)) (crC n tb (pbC n tb (ltC n tb p m) p i) (pbC n tb (ltC n tb p k) p i) (pbC n tb (ltC n tb p m) p j) (pbC n tb (ltC n tb p k) p j))))], mW (n, T, h, t, x) M, 0, 0) _
      refine m_if rfl (bI_R (olC n tb (crC n tb (pbC n tb (ltC n tb p l) p i) (pbC n tb (ltC n tb p m) p i) (pbC n tb (ltC n tb p l) p j) (pbC n tb (ltC n tb p m) p j)) (crC n tb (pbC n tb (ltC n tb p l) p i) (pbC n tb (ltC n tb p k) p i) (pbC n tb (ltC n tb p l) p j) (pbC n tb (ltC n tb p k) p j)) (crC n tb (pbC n tb (ltC n tb p m) p i) (pbC n tb (ltC n tb p k) p i) (pbC n tb (ltC n tb p m) p j) (pbC n tb (ltC n tb p k) p j)))) (fun (zc3 : (bI (olC n tb (crC n tb (pbC n tb (ltC n tb p l) p i) (pbC n tb (ltC n tb p m) p i) (pbC n tb (ltC n tb p l) p j) (pbC n tb (ltC n tb p m) p j)) (crC n tb (pbC n tb (ltC n tb p l) p i) (pbC n tb (ltC n tb p k) p i) (pbC n tb (ltC n tb p l) p j) (pbC n tb (ltC n tb p k) p j)) (crC n tb (pbC n tb (ltC n tb p m) p i) (pbC n tb (ltC n tb p k) p i) (pbC n tb (ltC n tb p m) p j) (pbC n tb (ltC n tb p k) p j)))) = 0) => ?_) (fun (zc3 : ¬ (bI (olC n tb (crC n tb (pbC n tb (ltC n tb p l) p i) (pbC n tb (ltC n tb p m) p i) (pbC n tb (ltC n tb p l) p j) (pbC n tb (ltC n tb p m) p j)) (crC n tb (pbC n tb (ltC n tb p l) p i) (pbC n tb (ltC n tb p k) p i) (pbC n tb (ltC n tb p l) p j) (pbC n tb (ltC n tb p k) p j)) (crC n tb (pbC n tb (ltC n tb p m) p i) (pbC n tb (ltC n tb p k) p i) (pbC n tb (ltC n tb p m) p j) (pbC n tb (ltC n tb p k) p j)))) = 0) => ?_)
      · replace zc3 : (olC n tb (crC n tb (pbC n tb (ltC n tb p l) p i) (pbC n tb (ltC n tb p m) p i) (pbC n tb (ltC n tb p l) p j) (pbC n tb (ltC n tb p m) p j)) (crC n tb (pbC n tb (ltC n tb p l) p i) (pbC n tb (ltC n tb p k) p i) (pbC n tb (ltC n tb p l) p j) (pbC n tb (ltC n tb p k) p j)) (crC n tb (pbC n tb (ltC n tb p m) p i) (pbC n tb (ltC n tb p k) p i) (pbC n tb (ltC n tb p m) p j) (pbC n tb (ltC n tb p k) p j))) = false := bI_e0.mp zc3
        refine m_run 1 (ps' := (168, [some (.inr (.inl 1)), some (.inl p), some (.inl l), some (.inl m), some (.inl k), some (.inl i), some (.inl j), some (.inl (ltC n tb p l)), some (.inl (ltC n tb p m)), some (.inl (ltC n tb p k)), some (.inl (pbC n tb (ltC n tb p l) p i)), some (.inl (pbC n tb (ltC n tb p m) p i)), some (.inl (pbC n tb (ltC n tb p k) p i)), some (.inl (pbC n tb (ltC n tb p l) p j)), some (.inl (pbC n tb (ltC n tb p m) p j)), some (.inl (pbC n tb (ltC n tb p k) p j))], [.inl 0], mW (n, T, h, t, x) M, 0, 0)) rfl ?_
        exact m_ret1 rfl (Or.inl rfl) rfl (m_Vi (by show _ = (if _ then _ else if _ then _ else _); simp [*, bI]))
      · replace zc3 : (olC n tb (crC n tb (pbC n tb (ltC n tb p l) p i) (pbC n tb (ltC n tb p m) p i) (pbC n tb (ltC n tb p l) p j) (pbC n tb (ltC n tb p m) p j)) (crC n tb (pbC n tb (ltC n tb p l) p i) (pbC n tb (ltC n tb p k) p i) (pbC n tb (ltC n tb p l) p j) (pbC n tb (ltC n tb p k) p j)) (crC n tb (pbC n tb (ltC n tb p m) p i) (pbC n tb (ltC n tb p k) p i) (pbC n tb (ltC n tb p m) p j) (pbC n tb (ltC n tb p k) p j))) = true := bI_n0.mp zc3
        refine m_run 2 (ps' := (168, [some (.inr (.inl 1)), some (.inl p), some (.inl l), some (.inl m), some (.inl k), some (.inl i), some (.inl j), some (.inl (ltC n tb p l)), some (.inl (ltC n tb p m)), some (.inl (ltC n tb p k)), some (.inl (pbC n tb (ltC n tb p l) p i)), some (.inl (pbC n tb (ltC n tb p m) p i)), some (.inl (pbC n tb (ltC n tb p k) p i)), some (.inl (pbC n tb (ltC n tb p l) p j)), some (.inl (pbC n tb (ltC n tb p m) p j)), some (.inl (pbC n tb (ltC n tb p k) p j))], [.inl 1], mW (n, T, h, t, x) M, 0, 0)) rfl ?_
        exact m_ret1 rfl (Or.inl rfl) rfl (m_Vi (by show _ = (if _ then _ else if _ then _ else _); simp [*, bI]))
    · replace zc2 : (olC n tb (pbC n tb (ltC n tb p l) p j) (pbC n tb (ltC n tb p m) p j) (pbC n tb (ltC n tb p k) p j)) = true := bI_n0.mp zc2
      refine m_run 1 (ps' := (119, [some (.inr (.inl 1)), some (.inl p), some (.inl l), some (.inl m), some (.inl k), some (.inl i), some (.inl j), some (.inl (ltC n tb p l)), some (.inl (ltC n tb p m)), some (.inl (ltC n tb p k)), some (.inl (pbC n tb (ltC n tb p l) p i)), some (.inl (pbC n tb (ltC n tb p m) p i)), some (.inl (pbC n tb (ltC n tb p k) p i)), some (.inl (pbC n tb (ltC n tb p l) p j)), some (.inl (pbC n tb (ltC n tb p m) p j)), some (.inl (pbC n tb (ltC n tb p k) p j))], [.inl (-1000002)], mW (n, T, h, t, x) M, 0, 0)) rfl ?_
      exact m_ret1 rfl (Or.inl rfl) rfl (m_Vi (by show _ = (if _ then _ else if _ then _ else _); simp [*]))
set_option maxHeartbeats 4000000 in
set_option maxRecDepth 100000 in
theorem k_hex {X : Nat × Nat × (Nat → Int32)} {n : Int} {T : Int → Int} {h : HS} {t : TS} {x : XS} {M : MS} {tb : Int → Int → Int} (hR : repC n T tb) {l m : Int} (hll : m_R l) (hm : m_R m) : m_Run X 35 [.inr (.inl 1), .inl l, .inl m] (mW (n, T, h, t, x) M) (m_V (bI (hexC n tb l m)) (mW (n, T, h, t, x) M)) := by
  have hn := hR.1
  have hl := okN_lo hn
  have hq := sq_b hn
  show m_Sem X 35 (0, [some (.inr (.inl 1)), some (.inl l), some (.inl m), none, none, none, none, none, none, none], [], mW (n, T, h, t, x) M, 0, 0) _
  refine m_run 3 (ps' := (3, [some (.inr (.inl 1)), some (.inl l), some (.inl m), none, none, none, none, none, none, none], [.inl m, .inl l, .inr (.inl 1)], mW (n, T, h, t, x) M, 0, 0)) rfl ?_
  refine m_callVF [.inl l, .inl m] [] rfl rfl ⟨_, rfl, rfl⟩ rfl rfl (k_mt (p := l) (q := m) hR hll hm) ?_
  have zt1 := mtC_in (n := n) (tb := tb) (p := l) (q := m)
  unfold NP at zt1
  show m_Sem X 35 (6, [some (.inr (.inl 1)), some (.inl l), some (.inl m), none, none, none, none, none, none, none], [.inl (mtC n tb l m)], mW (n, T, h, t, x) M, 0, 0) _
  refine m_run 5 (ps' := (11, [some (.inr (.inl 1)), some (.inl l), some (.inl m), some (.inl (mtC n tb l m)), none, none, none, none, none, none], [.inl 0, .inl (mtC n tb l m), .inl l, .inr (.inl 1)], mW (n, T, h, t, x) M, 0, 0)) rfl ?_
  refine m_callVF [.inl l, .inl (mtC n tb l m), .inl 0] [] rfl rfl ⟨_, rfl, rfl⟩ rfl rfl (k_pb (l := l) (o := (mtC n tb l m)) (i := 0) hR hll ⟨by omega, by omega⟩ ⟨by omega, by omega⟩ ⟨by omega, by omega⟩) ?_
  have zt2 := pbC_in (l := l) (o := (mtC n tb l m)) (i := 0) hn hR.tb
  unfold NP at zt2
  show m_Sem X 35 (14, [some (.inr (.inl 1)), some (.inl l), some (.inl m), some (.inl (mtC n tb l m)), none, none, none, none, none, none], [.inl (pbC n tb l (mtC n tb l m) 0)], mW (n, T, h, t, x) M, 0, 0) _
  refine m_run 5 (ps' := (20, [some (.inr (.inl 1)), some (.inl l), some (.inl m), some (.inl (mtC n tb l m)), some (.inl (pbC n tb l (mtC n tb l m) 0)), none, none, none, none, none], [.inl 1, .inl (mtC n tb l m), .inl l, .inr (.inl 1)], mW (n, T, h, t, x) M, 0, 0)) rfl ?_
  refine m_callVF [.inl l, .inl (mtC n tb l m), .inl 1] [] rfl rfl ⟨_, rfl, rfl⟩ rfl rfl (k_pb (l := l) (o := (mtC n tb l m)) (i := 1) hR hll ⟨by omega, by omega⟩ ⟨by omega, by omega⟩ ⟨by omega, by omega⟩) ?_
  have zt3 := pbC_in (l := l) (o := (mtC n tb l m)) (i := 1) hn hR.tb
  unfold NP at zt3
  show m_Sem X 35 (23, [some (.inr (.inl 1)), some (.inl l), some (.inl m), some (.inl (mtC n tb l m)), some (.inl (pbC n tb l (mtC n tb l m) 0)), none, none, none, none, none], [.inl (pbC n tb l (mtC n tb l m) 1)], mW (n, T, h, t, x) M, 0, 0) _
  refine m_run 5 (ps' := (29, [some (.inr (.inl 1)), some (.inl l), some (.inl m), some (.inl (mtC n tb l m)), some (.inl (pbC n tb l (mtC n tb l m) 0)), some (.inl (pbC n tb l (mtC n tb l m) 1)), none, none, none, none], [.inl 2, .inl (mtC n tb l m), .inl l, .inr (.inl 1)], mW (n, T, h, t, x) M, 0, 0)) rfl ?_
  refine m_callVF [.inl l, .inl (mtC n tb l m), .inl 2] [] rfl rfl ⟨_, rfl, rfl⟩ rfl rfl (k_pb (l := l) (o := (mtC n tb l m)) (i := 2) hR hll ⟨by omega, by omega⟩ ⟨by omega, by omega⟩ ⟨by omega, by omega⟩) ?_
  have zt4 := pbC_in (l := l) (o := (mtC n tb l m)) (i := 2) hn hR.tb
  unfold NP at zt4
  show m_Sem X 35 (32, [some (.inr (.inl 1)), some (.inl l), some (.inl m), some (.inl (mtC n tb l m)), some (.inl (pbC n tb l (mtC n tb l m) 0)), some (.inl (pbC n tb l (mtC n tb l m) 1)), none, none, none, none], [.inl (pbC n tb l (mtC n tb l m) 2)], mW (n, T, h, t, x) M, 0, 0) _
  refine m_run 5 (ps' := (38, [some (.inr (.inl 1)), some (.inl l), some (.inl m), some (.inl (mtC n tb l m)), some (.inl (pbC n tb l (mtC n tb l m) 0)), some (.inl (pbC n tb l (mtC n tb l m) 1)), some (.inl (pbC n tb l (mtC n tb l m) 2)), none, none, none], [.inl 0, .inl (mtC n tb l m), .inl m, .inr (.inl 1)], mW (n, T, h, t, x) M, 0, 0)) rfl ?_
  refine m_callVF [.inl m, .inl (mtC n tb l m), .inl 0] [] rfl rfl ⟨_, rfl, rfl⟩ rfl rfl (k_pb (l := m) (o := (mtC n tb l m)) (i := 0) hR hm ⟨by omega, by omega⟩ ⟨by omega, by omega⟩ ⟨by omega, by omega⟩) ?_
  have zt5 := pbC_in (l := m) (o := (mtC n tb l m)) (i := 0) hn hR.tb
  unfold NP at zt5
  show m_Sem X 35 (41, [some (.inr (.inl 1)), some (.inl l), some (.inl m), some (.inl (mtC n tb l m)), some (.inl (pbC n tb l (mtC n tb l m) 0)), some (.inl (pbC n tb l (mtC n tb l m) 1)), some (.inl (pbC n tb l (mtC n tb l m) 2)), none, none, none], [.inl (pbC n tb m (mtC n tb l m) 0)], mW (n, T, h, t, x) M, 0, 0) _
  refine m_run 5 (ps' := (47, [some (.inr (.inl 1)), some (.inl l), some (.inl m), some (.inl (mtC n tb l m)), some (.inl (pbC n tb l (mtC n tb l m) 0)), some (.inl (pbC n tb l (mtC n tb l m) 1)), some (.inl (pbC n tb l (mtC n tb l m) 2)), some (.inl (pbC n tb m (mtC n tb l m) 0)), none, none], [.inl 1, .inl (mtC n tb l m), .inl m, .inr (.inl 1)], mW (n, T, h, t, x) M, 0, 0)) rfl ?_
  refine m_callVF [.inl m, .inl (mtC n tb l m), .inl 1] [] rfl rfl ⟨_, rfl, rfl⟩ rfl rfl (k_pb (l := m) (o := (mtC n tb l m)) (i := 1) hR hm ⟨by omega, by omega⟩ ⟨by omega, by omega⟩ ⟨by omega, by omega⟩) ?_
  have zt6 := pbC_in (l := m) (o := (mtC n tb l m)) (i := 1) hn hR.tb
  unfold NP at zt6
  show m_Sem X 35 (50, [some (.inr (.inl 1)), some (.inl l), some (.inl m), some (.inl (mtC n tb l m)), some (.inl (pbC n tb l (mtC n tb l m) 0)), some (.inl (pbC n tb l (mtC n tb l m) 1)), some (.inl (pbC n tb l (mtC n tb l m) 2)), some (.inl (pbC n tb m (mtC n tb l m) 0)), none, none], [.inl (pbC n tb m (mtC n tb l m) 1)], mW (n, T, h, t, x) M, 0, 0) _
  refine m_run 5 (ps' := (56, [some (.inr (.inl 1)), some (.inl l), some (.inl m), some (.inl (mtC n tb l m)), some (.inl (pbC n tb l (mtC n tb l m) 0)), some (.inl (pbC n tb l (mtC n tb l m) 1)), some (.inl (pbC n tb l (mtC n tb l m) 2)), some (.inl (pbC n tb m (mtC n tb l m) 0)), some (.inl (pbC n tb m (mtC n tb l m) 1)), none], [.inl 2, .inl (mtC n tb l m), .inl m, .inr (.inl 1)], mW (n, T, h, t, x) M, 0, 0)) rfl ?_
  refine m_callVF [.inl m, .inl (mtC n tb l m), .inl 2] [] rfl rfl ⟨_, rfl, rfl⟩ rfl rfl (k_pb (l := m) (o := (mtC n tb l m)) (i := 2) hR hm ⟨by omega, by omega⟩ ⟨by omega, by omega⟩ ⟨by omega, by omega⟩) ?_
  have zt7 := pbC_in (l := m) (o := (mtC n tb l m)) (i := 2) hn hR.tb
  unfold NP at zt7
  show m_Sem X 35 (59, [some (.inr (.inl 1)), some (.inl l), some (.inl m), some (.inl (mtC n tb l m)), some (.inl (pbC n tb l (mtC n tb l m) 0)), some (.inl (pbC n tb l (mtC n tb l m) 1)), some (.inl (pbC n tb l (mtC n tb l m) 2)), some (.inl (pbC n tb m (mtC n tb l m) 0)), some (.inl (pbC n tb m (mtC n tb l m) 1)), none], [.inl (pbC n tb m (mtC n tb l m) 2)], mW (n, T, h, t, x) M, 0, 0) _
  refine m_run 7 (ps' := (71, [some (.inr (.inl 1)), some (.inl l), some (.inl m), some (.inl (mtC n tb l m)), some (.inl (pbC n tb l (mtC n tb l m) 0)), some (.inl (pbC n tb l (mtC n tb l m) 1)), some (.inl (pbC n tb l (mtC n tb l m) 2)), some (.inl (pbC n tb m (mtC n tb l m) 0)), some (.inl (pbC n tb m (mtC n tb l m) 1)), some (.inl (pbC n tb m (mtC n tb l m) 2))], [.inl (pbC n tb m (mtC n tb l m) 0), .inl (pbC n tb l (mtC n tb l m) 1), .inl (pbC n tb m (mtC n tb l m) 1), .inl (pbC n tb l (mtC n tb l m) 0), .inr (.inl 1), .inr (.inl 1)], mW (n, T, h, t, x) M, 0, 0)) rfl ?_
  refine m_callVF [.inl (pbC n tb l (mtC n tb l m) 0), .inl (pbC n tb m (mtC n tb l m) 1), .inl (pbC n tb l (mtC n tb l m) 1), .inl (pbC n tb m (mtC n tb l m) 0)] [.inr (.inl 1)] rfl rfl ⟨_, rfl, rfl⟩ rfl rfl (k_cr (a := (pbC n tb l (mtC n tb l m) 0)) (b := (pbC n tb m (mtC n tb l m) 1)) (c := (pbC n tb l (mtC n tb l m) 1)) (d := (pbC n tb m (mtC n tb l m) 0)) hR ⟨by omega, by omega⟩ ⟨by omega, by omega⟩ ⟨by omega, by omega⟩ ⟨by omega, by omega⟩) ?_
  have zt8 := mtC_in (n := n) (tb := tb) (p := lnC n tb (pbC n tb l (mtC n tb l m) 0) (pbC n tb m (mtC n tb l m) 1)) (q := lnC n tb (pbC n tb l (mtC n tb l m) 1) (pbC n tb m (mtC n tb l m) 0))
  unfold NP at zt8
  rw [show mtC n tb (lnC n tb (pbC n tb l (mtC n tb l m) 0) (pbC n tb m (mtC n tb l m) 1)) (lnC n tb (pbC n tb l (mtC n tb l m) 1) (pbC n tb m (mtC n tb l m) 0)) = crC n tb (pbC n tb l (mtC n tb l m) 0) (pbC n tb m (mtC n tb l m) 1) (pbC n tb l (mtC n tb l m) 1) (pbC n tb m (mtC n tb l m) 0) from rfl] at zt8
  show m_Sem X 35 (74, [some (.inr (.inl 1)), some (.inl l), some (.inl m), some (.inl (mtC n tb l m)), some (.inl (pbC n tb l (mtC n tb l m) 0)), some (.inl (pbC n tb l (mtC n tb l m) 1)), some (.inl (pbC n tb l (mtC n tb l m) 2)), some (.inl (pbC n tb m (mtC n tb l m) 0)), some (.inl (pbC n tb m (mtC n tb l m) 1)), some (.inl (pbC n tb m (mtC n tb l m) 2))], [.inl (crC n tb (pbC n tb l (mtC n tb l m) 0) (pbC n tb m (mtC n tb l m) 1) (pbC n tb l (mtC n tb l m) 1) (pbC n tb m (mtC n tb l m) 0)), .inr (.inl 1)], mW (n, T, h, t, x) M, 0, 0) _
  refine m_run 5 (ps' := (83, [some (.inr (.inl 1)), some (.inl l), some (.inl m), some (.inl (mtC n tb l m)), some (.inl (pbC n tb l (mtC n tb l m) 0)), some (.inl (pbC n tb l (mtC n tb l m) 1)), some (.inl (pbC n tb l (mtC n tb l m) 2)), some (.inl (pbC n tb m (mtC n tb l m) 0)), some (.inl (pbC n tb m (mtC n tb l m) 1)), some (.inl (pbC n tb m (mtC n tb l m) 2))], [.inl (pbC n tb m (mtC n tb l m) 0), .inl (pbC n tb l (mtC n tb l m) 2), .inl (pbC n tb m (mtC n tb l m) 2), .inl (pbC n tb l (mtC n tb l m) 0), .inr (.inl 1), .inl (crC n tb (pbC n tb l (mtC n tb l m) 0) (pbC n tb m (mtC n tb l m) 1) (pbC n tb l (mtC n tb l m) 1) (pbC n tb m (mtC n tb l m) 0)), .inr (.inl 1)], mW (n, T, h, t, x) M, 0, 0)) rfl ?_
  refine m_callVF [.inl (pbC n tb l (mtC n tb l m) 0), .inl (pbC n tb m (mtC n tb l m) 2), .inl (pbC n tb l (mtC n tb l m) 2), .inl (pbC n tb m (mtC n tb l m) 0)] [.inl (crC n tb (pbC n tb l (mtC n tb l m) 0) (pbC n tb m (mtC n tb l m) 1) (pbC n tb l (mtC n tb l m) 1) (pbC n tb m (mtC n tb l m) 0)), .inr (.inl 1)] rfl rfl ⟨_, rfl, rfl⟩ rfl rfl (k_cr (a := (pbC n tb l (mtC n tb l m) 0)) (b := (pbC n tb m (mtC n tb l m) 2)) (c := (pbC n tb l (mtC n tb l m) 2)) (d := (pbC n tb m (mtC n tb l m) 0)) hR ⟨by omega, by omega⟩ ⟨by omega, by omega⟩ ⟨by omega, by omega⟩ ⟨by omega, by omega⟩) ?_
  have zt9 := mtC_in (n := n) (tb := tb) (p := lnC n tb (pbC n tb l (mtC n tb l m) 0) (pbC n tb m (mtC n tb l m) 2)) (q := lnC n tb (pbC n tb l (mtC n tb l m) 2) (pbC n tb m (mtC n tb l m) 0))
  unfold NP at zt9
  rw [show mtC n tb (lnC n tb (pbC n tb l (mtC n tb l m) 0) (pbC n tb m (mtC n tb l m) 2)) (lnC n tb (pbC n tb l (mtC n tb l m) 2) (pbC n tb m (mtC n tb l m) 0)) = crC n tb (pbC n tb l (mtC n tb l m) 0) (pbC n tb m (mtC n tb l m) 2) (pbC n tb l (mtC n tb l m) 2) (pbC n tb m (mtC n tb l m) 0) from rfl] at zt9
  show m_Sem X 35 (86, [some (.inr (.inl 1)), some (.inl l), some (.inl m), some (.inl (mtC n tb l m)), some (.inl (pbC n tb l (mtC n tb l m) 0)), some (.inl (pbC n tb l (mtC n tb l m) 1)), some (.inl (pbC n tb l (mtC n tb l m) 2)), some (.inl (pbC n tb m (mtC n tb l m) 0)), some (.inl (pbC n tb m (mtC n tb l m) 1)), some (.inl (pbC n tb m (mtC n tb l m) 2))], [.inl (crC n tb (pbC n tb l (mtC n tb l m) 0) (pbC n tb m (mtC n tb l m) 2) (pbC n tb l (mtC n tb l m) 2) (pbC n tb m (mtC n tb l m) 0)), .inl (crC n tb (pbC n tb l (mtC n tb l m) 0) (pbC n tb m (mtC n tb l m) 1) (pbC n tb l (mtC n tb l m) 1) (pbC n tb m (mtC n tb l m) 0)), .inr (.inl 1)], mW (n, T, h, t, x) M, 0, 0) _
  refine m_run 5 (ps' := (95, [some (.inr (.inl 1)), some (.inl l), some (.inl m), some (.inl (mtC n tb l m)), some (.inl (pbC n tb l (mtC n tb l m) 0)), some (.inl (pbC n tb l (mtC n tb l m) 1)), some (.inl (pbC n tb l (mtC n tb l m) 2)), some (.inl (pbC n tb m (mtC n tb l m) 0)), some (.inl (pbC n tb m (mtC n tb l m) 1)), some (.inl (pbC n tb m (mtC n tb l m) 2))], [.inl (pbC n tb m (mtC n tb l m) 1), .inl (pbC n tb l (mtC n tb l m) 2), .inl (pbC n tb m (mtC n tb l m) 2), .inl (pbC n tb l (mtC n tb l m) 1), .inr (.inl 1), .inl (crC n tb (pbC n tb l (mtC n tb l m) 0) (pbC n tb m (mtC n tb l m) 2) (pbC n tb l (mtC n tb l m) 2) (pbC n tb m (mtC n tb l m) 0)), .inl (crC n tb (pbC n tb l (mtC n tb l m) 0) (pbC n tb m (mtC n tb l m) 1) (pbC n tb l (mtC n tb l m) 1) (pbC n tb m (mtC n tb l m) 0)), .inr (.inl 1)], mW (n, T, h, t, x) M, 0, 0)) rfl ?_
  refine m_callVF [.inl (pbC n tb l (mtC n tb l m) 1), .inl (pbC n tb m (mtC n tb l m) 2), .inl (pbC n tb l (mtC n tb l m) 2), .inl (pbC n tb m (mtC n tb l m) 1)] [.inl (crC n tb (pbC n tb l (mtC n tb l m) 0) (pbC n tb m (mtC n tb l m) 2) (pbC n tb l (mtC n tb l m) 2) (pbC n tb m (mtC n tb l m) 0)), .inl (crC n tb (pbC n tb l (mtC n tb l m) 0) (pbC n tb m (mtC n tb l m) 1) (pbC n tb l (mtC n tb l m) 1) (pbC n tb m (mtC n tb l m) 0)), .inr (.inl 1)] rfl rfl ⟨_, rfl, rfl⟩ rfl rfl (k_cr (a := (pbC n tb l (mtC n tb l m) 1)) (b := (pbC n tb m (mtC n tb l m) 2)) (c := (pbC n tb l (mtC n tb l m) 2)) (d := (pbC n tb m (mtC n tb l m) 1)) hR ⟨by omega, by omega⟩ ⟨by omega, by omega⟩ ⟨by omega, by omega⟩ ⟨by omega, by omega⟩) ?_
  have zt10 := mtC_in (n := n) (tb := tb) (p := lnC n tb (pbC n tb l (mtC n tb l m) 1) (pbC n tb m (mtC n tb l m) 2)) (q := lnC n tb (pbC n tb l (mtC n tb l m) 2) (pbC n tb m (mtC n tb l m) 1))
  unfold NP at zt10
  rw [show mtC n tb (lnC n tb (pbC n tb l (mtC n tb l m) 1) (pbC n tb m (mtC n tb l m) 2)) (lnC n tb (pbC n tb l (mtC n tb l m) 2) (pbC n tb m (mtC n tb l m) 1)) = crC n tb (pbC n tb l (mtC n tb l m) 1) (pbC n tb m (mtC n tb l m) 2) (pbC n tb l (mtC n tb l m) 2) (pbC n tb m (mtC n tb l m) 1) from rfl] at zt10
  show m_Sem X 35 (98, [some (.inr (.inl 1)), some (.inl l), some (.inl m), some (.inl (mtC n tb l m)), some (.inl (pbC n tb l (mtC n tb l m) 0)), some (.inl (pbC n tb l (mtC n tb l m) 1)), some (.inl (pbC n tb l (mtC n tb l m) 2)), some (.inl (pbC n tb m (mtC n tb l m) 0)), some (.inl (pbC n tb m (mtC n tb l m) 1)), some (.inl (pbC n tb m (mtC n tb l m) 2))], [.inl (crC n tb (pbC n tb l (mtC n tb l m) 1) (pbC n tb m (mtC n tb l m) 2) (pbC n tb l (mtC n tb l m) 2) (pbC n tb m (mtC n tb l m) 1)), .inl (crC n tb (pbC n tb l (mtC n tb l m) 0) (pbC n tb m (mtC n tb l m) 2) (pbC n tb l (mtC n tb l m) 2) (pbC n tb m (mtC n tb l m) 0)), .inl (crC n tb (pbC n tb l (mtC n tb l m) 0) (pbC n tb m (mtC n tb l m) 1) (pbC n tb l (mtC n tb l m) 1) (pbC n tb m (mtC n tb l m) 0)), .inr (.inl 1)], mW (n, T, h, t, x) M, 0, 0) _
  refine m_callVF [.inl (crC n tb (pbC n tb l (mtC n tb l m) 0) (pbC n tb m (mtC n tb l m) 1) (pbC n tb l (mtC n tb l m) 1) (pbC n tb m (mtC n tb l m) 0)), .inl (crC n tb (pbC n tb l (mtC n tb l m) 0) (pbC n tb m (mtC n tb l m) 2) (pbC n tb l (mtC n tb l m) 2) (pbC n tb m (mtC n tb l m) 0)), .inl (crC n tb (pbC n tb l (mtC n tb l m) 1) (pbC n tb m (mtC n tb l m) 2) (pbC n tb l (mtC n tb l m) 2) (pbC n tb m (mtC n tb l m) 1))] [] rfl rfl ⟨_, rfl, rfl⟩ rfl rfl (k_ol (a := (crC n tb (pbC n tb l (mtC n tb l m) 0) (pbC n tb m (mtC n tb l m) 1) (pbC n tb l (mtC n tb l m) 1) (pbC n tb m (mtC n tb l m) 0))) (b := (crC n tb (pbC n tb l (mtC n tb l m) 0) (pbC n tb m (mtC n tb l m) 2) (pbC n tb l (mtC n tb l m) 2) (pbC n tb m (mtC n tb l m) 0))) (c := (crC n tb (pbC n tb l (mtC n tb l m) 1) (pbC n tb m (mtC n tb l m) 2) (pbC n tb l (mtC n tb l m) 2) (pbC n tb m (mtC n tb l m) 1))) hR ⟨by omega, by omega⟩ ⟨by omega, by omega⟩ ⟨by omega, by omega⟩) ?_
  show m_Sem X 35 (101, [some (.inr (.inl 1)), some (.inl l), some (.inl m), some (.inl (mtC n tb l m)), some (.inl (pbC n tb l (mtC n tb l m) 0)), some (.inl (pbC n tb l (mtC n tb l m) 1)), some (.inl (pbC n tb l (mtC n tb l m) 2)), some (.inl (pbC n tb m (mtC n tb l m) 0)), some (.inl (pbC n tb m (mtC n tb l m) 1)), some (.inl (pbC n tb m (mtC n tb l m) 2))], [.inl (bI (olC n tb (crC n tb (pbC n tb l (mtC n tb l m) 0) (pbC n tb m (mtC n tb l m) 1) (pbC n tb l (mtC n tb l m) 1) (pbC n tb m (mtC n tb l m) 0)) (crC n tb (pbC n tb l (mtC n tb l m) 0) (pbC n tb m (mtC n tb l m) 2) (pbC n tb l (mtC n tb l m) 2) (pbC n tb m (mtC n tb l m) 0)) (crC n tb (pbC n tb l (mtC n tb l m) 1) (pbC n tb m (mtC n tb l m) 2) (pbC n tb l (mtC n tb l m) 2) (pbC n tb m (mtC n tb l m) 1))))], mW (n, T, h, t, x) M, 0, 0) _
  exact m_ret1 rfl (Or.inr ⟨rfl, bI_01 (olC n tb (crC n tb (pbC n tb l (mtC n tb l m) 0) (pbC n tb m (mtC n tb l m) 1) (pbC n tb l (mtC n tb l m) 1) (pbC n tb m (mtC n tb l m) 0)) (crC n tb (pbC n tb l (mtC n tb l m) 0) (pbC n tb m (mtC n tb l m) 2) (pbC n tb l (mtC n tb l m) 2) (pbC n tb m (mtC n tb l m) 0)) (crC n tb (pbC n tb l (mtC n tb l m) 1) (pbC n tb m (mtC n tb l m) 2) (pbC n tb l (mtC n tb l m) 2) (pbC n tb m (mtC n tb l m) 1)))⟩) rfl (m_Vb rfl)
