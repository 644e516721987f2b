def inN (n e : Int) : Bool := decide (0 ≤ e) && decide (e < n)
theorem inN_t {n e : Int} (h1 : 0 ≤ e) (h2 : e < n) : inN n e = true := by unfold inN; rw [decide_eq_true h1, decide_eq_true h2]; rfl
theorem inN_f {n e : Int} (h : e < 0 ∨ n ≤ e) : inN n e = false := by
  unfold inN
  rcases h with h | h
  · rw [decide_eq_false (by omega : ¬ 0 ≤ e)]; rfl
  · rw [decide_eq_false (by omega : ¬ e < n), Bool.and_false]
theorem inN_i {n e : Int} : inN n e = true ↔ 0 ≤ e ∧ e < n := by unfold inN; simp
theorem inN_i2 {n e : Int} : inN n e = false ↔ e < 0 ∨ n ≤ e := by
  unfold inN
  rw [Bool.and_eq_false_iff, decide_eq_false_iff_not, decide_eq_false_iff_not]
  omega
set_option maxHeartbeats 4000000 in
set_option maxRecDepth 100000 in
theorem k_has {X : Nat × Nat × (Nat → Int32)} {n : Int} {T : Int → Int} {h : HS} {t : TS} {x : XS} {M : MS} {e : Int} (hn : okN n) (he : m_R e) : m_Run X 14 [.inr (.inl 2), .inl e] (mW (n, T, h, t, x) M) (m_V (bI (inN n e)) (mW (n, T, h, t, x) M)) := by
  have hl := okN_lo hn
  show m_Sem X 14 (0, [some (.inr (.inl 2)), some (.inl e)], [], mW (n, T, h, t, x) M, 0, 0) _
  refine m_run 1 (ps' := (1, [some (.inr (.inl 2)), some (.inl e)], [.inl e], mW (n, T, h, t, x) M, 0, 0)) rfl ?_
  refine m_if rfl he (fun (zc1 : e < 0) => ?_) (fun (zc1 : ¬ e < 0) => ?_)
  · refine m_run 1 (ps' := (17, [some (.inr (.inl 2)), some (.inl e)], [.inl 0], mW (n, T, h, t, x) M, 0, 0)) rfl ?_
    exact m_ret1 rfl (Or.inr ⟨rfl, Or.inl rfl⟩) rfl (m_Vi (by rw [inN_f (by omega)]; rfl))
  · refine m_run 3 (ps' := (9, [some (.inr (.inl 2)), some (.inl e)], [.inl n, .inl e], mW (n, T, h, t, x) M, 0, 0)) rfl ?_
    refine m_icmp rfl he ⟨by omega, by omega⟩ (fun (zc2 : n ≤ e) => ?_) (fun (zc2 : ¬ n ≤ e) => ?_)
    · refine m_run 1 (ps' := (17, [some (.inr (.inl 2)), some (.inl e)], [.inl 0], mW (n, T, h, t, x) M, 0, 0)) rfl ?_
      exact m_ret1 rfl (Or.inr ⟨rfl, Or.inl rfl⟩) rfl (m_Vi (by rw [inN_f (by omega)]; rfl))
    · refine m_run 2 (ps' := (17, [some (.inr (.inl 2)), some (.inl e)], [.inl 1], mW (n, T, h, t, x) M, 0, 0)) rfl ?_
      exact m_ret1 rfl (Or.inr ⟨rfl, Or.inr rfl⟩) rfl (m_Vi (by rw [inN_t (by omega) (by omega)]; rfl))
set_option maxHeartbeats 4000000 in
set_option maxRecDepth 100000 in
theorem k_sum {X : Nat × Nat × (Nat → Int32)} {n : Int} {T : Int → Int} {h : HS} {t : TS} {x : XS} {M : MS} {a b : Int} (hn : okN n) (ha : 0 ≤ a) (ha2 : a < n) (hb : 0 ≤ b) (hb2 : b < n) : m_Run X 15 [.inr (.inl 2), .inl a, .inl b] (mW (n, T, h, t, x) M) (m_V (sumS n a b) (mW (n, T, h, t, x) M)) := by
  have hl := okN_lo hn
  show m_Sem X 15 (0, [some (.inr (.inl 2)), some (.inl a), some (.inl b)], [], mW (n, T, h, t, x) M, 0, 0) _
  refine m_run 3 (ps' := (5, [some (.inr (.inl 2)), some (.inl a), some (.inl b)], [.inl 4, .inl n], mW (n, T, h, t, x) M, 0, 0)) rfl ?_
  refine m_icmp rfl ⟨by omega, by omega⟩ ⟨by omega, by omega⟩ (fun (zc1 : ¬ n = 4) => ?_) (fun (zc1 : ¬ ¬ n = 4) => ?_)
  · refine m_run 3 (ps' := (18, [some (.inr (.inl 2)), some (.inl a), some (.inl b)], [.inl 9, .inl n], mW (n, T, h, t, x) M, 0, 0)) rfl ?_
    refine m_icmp rfl ⟨by omega, by omega⟩ ⟨by omega, by omega⟩ (fun (zc2 : ¬ n = 9) => ?_) (fun (zc2 : ¬ ¬ n = 9) => ?_)
    · refine m_run 5 (ps' := (50, [some (.inr (.inl 2)), some (.inl a), some (.inl b)], [.inl n, .inl (a + b)], mW (n, T, h, t, x) M, 0, 0)) rfl ?_
      refine m_icmp rfl ⟨by omega, by omega⟩ ⟨by omega, by omega⟩ (fun (zc3 : n ≤ (a + b)) => ?_) (fun (zc3 : ¬ n ≤ (a + b)) => ?_)
      · refine m_run 6 (ps' := (67, [some (.inr (.inl 2)), some (.inl a), some (.inl b)], [.inl ((a + b) - n)], mW (n, T, h, t, x) M, 0, 0)) rfl ?_
        exact m_ret1 rfl (Or.inl rfl) rfl (m_Vi (by unfold sumS; (repeat' split) <;> first | rfl | omega))
      · refine m_run 4 (ps' := (67, [some (.inr (.inl 2)), some (.inl a), some (.inl b)], [.inl (a + b)], mW (n, T, h, t, x) M, 0, 0)) rfl ?_
        exact m_ret1 rfl (Or.inl rfl) rfl (m_Vi (by unfold sumS; (repeat' split) <;> first | rfl | omega))
    · replace zc2 : n = 9 := Decidable.not_not.mp zc2
      refine m_run 3 (ps' := (24, [some (.inr (.inl 2)), some (.inl a), some (.inl b)], [.inl 3, .inl a, .inl 3], mW (n, T, h, t, x) M, 0, 0)) rfl ?_
      refine m_div rfl (by omega) (by omega) (by omega) (by omega) ?_
      refine m_run 2 (ps' := (27, [some (.inr (.inl 2)), some (.inl a), some (.inl b)], [.inl 3, .inl b, .inl (a / 3), .inl 3], mW (n, T, h, t, x) M, 0, 0)) rfl ?_
      refine m_div rfl (by omega) (by omega) (by omega) (by omega) ?_
      refine m_run 2 (ps' := (30, [some (.inr (.inl 2)), some (.inl a), some (.inl b)], [.inl 3, .inl ((a / 3) + (b / 3)), .inl 3], mW (n, T, h, t, x) M, 0, 0)) rfl ?_
      refine m_rem rfl (by omega) (by omega) (by omega) (by omega) ?_
      refine m_run 3 (ps' := (34, [some (.inr (.inl 2)), some (.inl a), some (.inl b)], [.inl 3, .inl a, .inl (3 * (((a / 3) + (b / 3)) % 3))], mW (n, T, h, t, x) M, 0, 0)) rfl ?_
      refine m_rem rfl (by omega) (by omega) (by omega) (by omega) ?_
      refine m_run 2 (ps' := (37, [some (.inr (.inl 2)), some (.inl a), some (.inl b)], [.inl 3, .inl b, .inl (a % 3), .inl (3 * (((a / 3) + (b / 3)) % 3))], mW (n, T, h, t, x) M, 0, 0)) rfl ?_
      refine m_rem rfl (by omega) (by omega) (by omega) (by omega) ?_
      refine m_run 2 (ps' := (40, [some (.inr (.inl 2)), some (.inl a), some (.inl b)], [.inl 3, .inl ((a % 3) + (b % 3)), .inl (3 * (((a / 3) + (b / 3)) % 3))], mW (n, T, h, t, x) M, 0, 0)) rfl ?_
      refine m_rem rfl (by omega) (by omega) (by omega) (by omega) ?_
      refine m_run 1 (ps' := (42, [some (.inr (.inl 2)), some (.inl a), some (.inl b)], [.inl ((3 * (((a / 3) + (b / 3)) % 3)) + (((a % 3) + (b % 3)) % 3))], mW (n, T, h, t, x) M, 0, 0)) rfl ?_
      exact m_ret1 rfl (Or.inl rfl) rfl (m_Vi (by unfold sumS; (repeat' split) <;> first | rfl | omega))
  · replace zc1 : n = 4 := Decidable.not_not.mp zc1
    refine m_run 3 (ps' := (11, [some (.inr (.inl 2)), some (.inl a), some (.inl b)], [.inl ((Int32.ofInt a ^^^ Int32.ofInt b).toInt)], mW (n, T, h, t, x) M, 0, 0)) rfl ?_
    exact m_ret1 rfl (Or.inl rfl) rfl (m_Vi (by unfold sumS; (repeat' split) <;> first | rfl | omega))
set_option maxHeartbeats 4000000 in
set_option maxRecDepth 100000 in
theorem k_dif {X : Nat × Nat × (Nat → Int32)} {n : Int} {T : Int → Int} {h : HS} {t : TS} {x : XS} {M : MS} {a b : Int} (hn : okN n) (ha : 0 ≤ a) (ha2 : a < n) (hb : 0 ≤ b) (hb2 : b < n) : m_Run X 16 [.inr (.inl 2), .inl a, .inl b] (mW (n, T, h, t, x) M) (m_V (difS n a b) (mW (n, T, h, t, x) M)) := by
  have hl := okN_lo hn
  show m_Sem X 16 (0, [some (.inr (.inl 2)), some (.inl a), some (.inl b)], [], mW (n, T, h, t, x) M, 0, 0) _
  refine m_run 3 (ps' := (5, [some (.inr (.inl 2)), some (.inl a), some (.inl b)], [.inl 4, .inl n], mW (n, T, h, t, x) M, 0, 0)) rfl ?_
  refine m_icmp rfl ⟨by omega, by omega⟩ ⟨by omega, by omega⟩ (fun (zc1 : ¬ n = 4) => ?_) (fun (zc1 : ¬ ¬ n = 4) => ?_)
  · refine m_run 3 (ps' := (18, [some (.inr (.inl 2)), some (.inl a), some (.inl b)], [.inl 9, .inl n], mW (n, T, h, t, x) M, 0, 0)) rfl ?_
    refine m_icmp rfl ⟨by omega, by omega⟩ ⟨by omega, by omega⟩ (fun (zc2 : ¬ n = 9) => ?_) (fun (zc2 : ¬ ¬ n = 9) => ?_)
    · refine m_run 2 (ps' := (49, [some (.inr (.inl 2)), some (.inl a), some (.inl b)], [.inl b, .inl a], mW (n, T, h, t, x) M, 0, 0)) rfl ?_
      refine m_icmp rfl ⟨by omega, by omega⟩ ⟨by omega, by omega⟩ (fun (zc3 : b ≤ a) => ?_) (fun (zc3 : ¬ b ≤ a) => ?_)
      · refine m_run 3 (ps' := (66, [some (.inr (.inl 2)), some (.inl a), some (.inl b)], [.inl (a - b)], mW (n, T, h, t, x) M, 0, 0)) rfl ?_
        exact m_ret1 rfl (Or.inl rfl) rfl (m_Vi (by unfold difS; (repeat' split) <;> first | rfl | omega))
      · refine m_run 7 (ps' := (66, [some (.inr (.inl 2)), some (.inl a), some (.inl b)], [.inl ((a - b) + n)], mW (n, T, h, t, x) M, 0, 0)) rfl ?_
        exact m_ret1 rfl (Or.inl rfl) rfl (m_Vi (by unfold difS; (repeat' split) <;> first | rfl | omega))
    · replace zc2 : n = 9 := Decidable.not_not.mp zc2
      refine m_run 3 (ps' := (24, [some (.inr (.inl 2)), some (.inl a), some (.inl b)], [.inl 3, .inl a, .inl 3], mW (n, T, h, t, x) M, 0, 0)) rfl ?_
      refine m_div rfl (by omega) (by omega) (by omega) (by omega) ?_
      refine m_run 2 (ps' := (27, [some (.inr (.inl 2)), some (.inl a), some (.inl b)], [.inl 3, .inl b, .inl (a / 3), .inl 3], mW (n, T, h, t, x) M, 0, 0)) rfl ?_
      refine m_div rfl (by omega) (by omega) (by omega) (by omega) ?_
      refine m_run 4 (ps' := (32, [some (.inr (.inl 2)), some (.inl a), some (.inl b)], [.inl 3, .inl (((a / 3) - (b / 3)) + 3), .inl 3], mW (n, T, h, t, x) M, 0, 0)) rfl ?_
      refine m_rem rfl (by omega) (by omega) (by omega) (by omega) ?_
      refine m_run 3 (ps' := (36, [some (.inr (.inl 2)), some (.inl a), some (.inl b)], [.inl 3, .inl a, .inl (3 * ((((a / 3) - (b / 3)) + 3) % 3))], mW (n, T, h, t, x) M, 0, 0)) rfl ?_
      refine m_rem rfl (by omega) (by omega) (by omega) (by omega) ?_
      refine m_run 2 (ps' := (39, [some (.inr (.inl 2)), some (.inl a), some (.inl b)], [.inl 3, .inl b, .inl (a % 3), .inl (3 * ((((a / 3) - (b / 3)) + 3) % 3))], mW (n, T, h, t, x) M, 0, 0)) rfl ?_
      refine m_rem rfl (by omega) (by omega) (by omega) (by omega) ?_
      refine m_run 4 (ps' := (44, [some (.inr (.inl 2)), some (.inl a), some (.inl b)], [.inl 3, .inl (((a % 3) - (b % 3)) + 3), .inl (3 * ((((a / 3) - (b / 3)) + 3) % 3))], mW (n, T, h, t, x) M, 0, 0)) rfl ?_
      refine m_rem rfl (by omega) (by omega) (by omega) (by omega) ?_
      refine m_run 1 (ps' := (46, [some (.inr (.inl 2)), some (.inl a), some (.inl b)], [.inl ((3 * ((((a / 3) - (b / 3)) + 3) % 3)) + ((((a % 3) - (b % 3)) + 3) % 3))], mW (n, T, h, t, x) M, 0, 0)) rfl ?_
      exact m_ret1 rfl (Or.inl rfl) rfl (m_Vi (by unfold difS; (repeat' split) <;> first | rfl | omega))
  · replace zc1 : n = 4 := Decidable.not_not.mp zc1
    refine m_run 3 (ps' := (11, [some (.inr (.inl 2)), some (.inl a), some (.inl b)], [.inl ((Int32.ofInt a ^^^ Int32.ofInt b).toInt)], mW (n, T, h, t, x) M, 0, 0)) rfl ?_
    exact m_ret1 rfl (Or.inl rfl) rfl (m_Vi (by unfold difS; (repeat' split) <;> first | rfl | omega))
set_option maxHeartbeats 4000000 in
set_option maxRecDepth 100000 in
theorem k_times {X : Nat × Nat × (Nat → Int32)} {n : Int} {T : Int → Int} {h : HS} {t : TS} {x : XS} {M : MS} {tb : Int → Int → Int} {a b : Int} (hR : repC n T tb) (ha : 0 ≤ a) (ha2 : a < n) (hb : 0 ≤ b) (hb2 : b < n) : m_Run X 17 [.inr (.inl 2), .inl a, .inl b] (mW (n, T, h, t, x) M) (m_V (tb a b) (mW (n, T, h, t, x) M)) := by
  have hn := hR.1
  have hl := okN_lo hn
  show m_Sem X 17 (0, [some (.inr (.inl 2)), some (.inl a), some (.inl b), none], [], mW (n, T, h, t, x) M, 0, 0) _
  refine m_run 7 (ps' := (8, [some (.inr (.inl 2)), some (.inl a), some (.inl b), some (.inl ((9 * a) + b))], [.inl ((9 * a) + b)], mW (n, T, h, t, x) M, 0, 0)) rfl ?_
  refine m_if rfl ⟨by omega, by omega⟩ (fun (zc1 : ((9 * a) + b) < 0) => absurd zc1 (by omega)) (fun (zc1 : ¬ ((9 * a) + b) < 0) => ?_)
  refine m_run 4 (ps' := (17, [some (.inr (.inl 2)), some (.inl a), some (.inl b), some (.inl ((9 * a) + b))], [.inl 81, .inl ((9 * a) + b)], mW (n, T, h, t, x) M, 0, 0)) rfl ?_
  refine m_icmp rfl ⟨by omega, by omega⟩ ⟨by omega, by omega⟩ (fun (zc2 : 81 ≤ ((9 * a) + b)) => absurd zc2 (by omega)) (fun (zc2 : ¬ 81 ≤ ((9 * a) + b)) => ?_)
  refine m_run 3 (ps' := (25, [some (.inr (.inl 2)), some (.inl a), some (.inl b), some (.inl ((9 * a) + b))], [.inl ((9 * a) + b), .inr (.inl 3)], mW (n, T, h, t, x) M, 0, 0)) rfl ?_
  refine m_iald rfl rfl (by omega) (by omega) (by decide) ?_
  refine m_run 1 (ps' := (30, [some (.inr (.inl 2)), some (.inl a), some (.inl b), some (.inl ((9 * a) + b))], [.inl (T ((9 * a) + b))], mW (n, T, h, t, x) M, 0, 0)) rfl ?_
  exact m_ret1 rfl (Or.inl rfl) rfl (m_Vi (hR.2 a b ha ha2 hb hb2).1)
def sideS (tb : Int → Int → Int) (r : Bool) (a x : Int) : Int := bif r then tb a x else tb x a
set_option maxHeartbeats 4000000 in
set_option maxRecDepth 100000 in
theorem k_side {X : Nat × Nat × (Nat → Int32)} {n : Int} {T : Int → Int} {h : HS} {t : TS} {x : XS} {M : MS} {tb : Int → Int → Int} {r : Bool} {a b : Int} (hR : repC n T tb) (ha : 0 ≤ a) (ha2 : a < n) (hb : 0 ≤ b) (hb2 : b < n) : m_Run X 18 [.inr (.inl 2), .inl a, .inl b, .inl (bI r)] (mW (n, T, h, t, x) M) (m_V (sideS tb r a b) (mW (n, T, h, t, x) M)) := by
  have hn := hR.1
  have hl := okN_lo hn
  show m_Sem X 18 (0, [some (.inr (.inl 2)), some (.inl a), some (.inl b), some (.inl (bI r))], [], mW (n, T, h, t, x) M, 0, 0) _
  refine m_run 1 (ps' := (1, [some (.inr (.inl 2)), some (.inl a), some (.inl b), some (.inl (bI r))], [.inl (bI r)], mW (n, T, h, t, x) M, 0, 0)) rfl ?_
  refine m_if rfl (bI_R r) (fun (zc1 : (bI r) = 0) => ?_) (fun (zc1 : ¬ (bI r) = 0) => ?_)
  · replace zc1 : r = false := bI_e0.mp zc1
    refine m_run 3 (ps' := (16, [some (.inr (.inl 2)), some (.inl a), some (.inl b), some (.inl (bI r))], [.inl a, .inl b, .inr (.inl 2)], mW (n, T, h, t, x) M, 0, 0)) rfl ?_
    refine m_callVF [.inl b, .inl a] [] rfl rfl ⟨_, rfl, rfl⟩ rfl rfl (k_times (a := b) (b := a) hR (by omega) (by omega) (by omega) (by omega)) ?_
    have zt1 := (hR.2 b a (by omega) (by omega) (by omega) (by omega)).2
    show m_Sem X 18 (19, [some (.inr (.inl 2)), some (.inl a), some (.inl b), some (.inl (bI r))], [.inl (tb b a)], mW (n, T, h, t, x) M, 0, 0) _
    exact m_ret1 rfl (Or.inl rfl) rfl (m_Vi (by unfold sideS; rw [zc1]; rfl))
  · replace zc1 : r = true := bI_n0.mp zc1
    refine m_run 3 (ps' := (7, [some (.inr (.inl 2)), some (.inl a), some (.inl b), some (.inl (bI r))], [.inl b, .inl a, .inr (.inl 2)], mW (n, T, h, t, x) M, 0, 0)) rfl ?_
    refine m_callVF [.inl a, .inl b] [] rfl rfl ⟨_, rfl, rfl⟩ rfl rfl (k_times (a := a) (b := b) hR (by omega) (by omega) (by omega) (by omega)) ?_
    have zt1 := (hR.2 a b (by omega) (by omega) (by omega) (by omega)).2
    show m_Sem X 18 (10, [some (.inr (.inl 2)), some (.inl a), some (.inl b), some (.inl (bI r))], [.inl (tb a b)], mW (n, T, h, t, x) M, 0, 0) _
    refine m_run 1 (ps' := (19, [some (.inr (.inl 2)), some (.inl a), some (.inl b), some (.inl (bI r))], [.inl (tb a b)], mW (n, T, h, t, x) M, 0, 0)) rfl ?_
    exact m_ret1 rfl (Or.inl rfl) rfl (m_Vi (by unfold sideS; rw [zc1]; rfl))
theorem sideS_in {n : Int} {T : Int → Int} {tb : Int → Int → Int} (hR : repC n T tb) {r : Bool} {a x : Int} (ha : 0 ≤ a) (ha2 : a < n) (hb : 0 ≤ x) (hb2 : x < n) : 0 ≤ sideS tb r a x ∧ sideS tb r a x < n := by
  cases r
  · exact (hR.2 x a hb hb2 ha ha2).2
  · exact (hR.2 a x ha ha2 hb hb2).2
set_option maxHeartbeats 4000000 in
set_option maxRecDepth 100000 in
theorem l_low {X : Nat × Nat × (Nat → Int32)} {n : Int} {T : Int → Int} {h : HS} {t : TS} {x : XS} {M : MS} {tb : Int → Int → Int} {a b : Int} {r : Bool} (hR : repC n T tb) (ha : 0 ≤ a) (ha2 : a < n) (hb : 0 ≤ b) (hb2 : b < n) : ∀ i : Int, 0 ≤ i → i ≤ n → m_Sem X 19 (3, [some (.inr (.inl 2)), some (.inl a), some (.inl b), some (.inl (bI r)), some (.inl i)], [], mW (n, T, h, t, x) M, 0, 0) (m_V (fstF (fun i => decide (sideS tb r a i = b)) (n - i).toNat i) (mW (n, T, h, t, x) M)) := by
  have hn := hR.1
  have hl := okN_lo hn
  refine m_down 0 n ?_ ?_
  · show m_Sem X 19 (3, [some (.inr (.inl 2)), some (.inl a), some (.inl b), some (.inl (bI r)), some (.inl n)], [], mW (n, T, h, t, x) M, 0, 0) _
    refine m_run 3 (ps' := (9, [some (.inr (.inl 2)), some (.inl a), some (.inl b), some (.inl (bI r)), some (.inl n)], [.inl n, .inl n], mW (n, T, h, t, x) M, 0, 0)) rfl ?_
    refine m_icmp rfl ⟨by omega, by omega⟩ ⟨by omega, by omega⟩ (fun (zc1 : n ≤ n) => ?_) (fun (zc1 : ¬ n ≤ n) => absurd zc1 (not_not_intro (by omega)))
    refine m_run 1 (ps' := (34, [some (.inr (.inl 2)), some (.inl a), some (.inl b), some (.inl (bI r)), some (.inl n)], [.inl (-1)], mW (n, T, h, t, x) M, 0, 0)) rfl ?_
    exact m_ret1 rfl (Or.inl rfl) rfl (m_Vi (fst_end _ _).symm)
  · intro i hi1 hi2 ih 
    refine m_run 3 (ps' := (9, [some (.inr (.inl 2)), some (.inl a), some (.inl b), some (.inl (bI r)), some (.inl i)], [.inl n, .inl i], mW (n, T, h, t, x) M, 0, 0)) rfl ?_
    refine m_icmp rfl ⟨by omega, by omega⟩ ⟨by omega, by omega⟩ (fun (zc1 : n ≤ i) => absurd zc1 (by omega)) (fun (zc1 : ¬ n ≤ i) => ?_)
    refine m_run 4 (ps' := (17, [some (.inr (.inl 2)), some (.inl a), some (.inl b), some (.inl (bI r)), some (.inl i)], [.inl (bI r), .inl i, .inl a, .inr (.inl 2)], mW (n, T, h, t, x) M, 0, 0)) rfl ?_
    refine m_callVF [.inl a, .inl i, .inl (bI r)] [] rfl rfl ⟨_, rfl, rfl⟩ rfl rfl (k_side (a := a) (b := i) (r := r) hR (by omega) (by omega) (by omega) (by omega)) ?_
    have zt1 := sideS_in hR (r := r) (a := a) (x := i) (by omega) (by omega) (by omega) (by omega)
    show m_Sem X 19 (20, [some (.inr (.inl 2)), some (.inl a), some (.inl b), some (.inl (bI r)), some (.inl i)], [.inl (sideS tb r a i)], mW (n, T, h, t, x) M, 0, 0) _
    refine m_run 1 (ps' := (21, [some (.inr (.inl 2)), some (.inl a), some (.inl b), some (.inl (bI r)), some (.inl i)], [.inl b, .inl (sideS tb r a i)], mW (n, T, h, t, x) M, 0, 0)) rfl ?_
    refine m_icmp rfl ⟨by omega, by omega⟩ ⟨by omega, by omega⟩ (fun (zc2 : ¬ (sideS tb r a i) = b) => ?_) (fun (zc2 : ¬ ¬ (sideS tb r a i) = b) => ?_)
    · refine m_run 2 (ps' := (3, [some (.inr (.inl 2)), some (.inl a), some (.inl b), some (.inl (bI r)), some (.inl (i + 1))], [], mW (n, T, h, t, x) M, 0, 0)) rfl ?_
      refine m_weak [some (.inr (.inl 2)), some (.inl a), some (.inl b), some (.inl (bI r)), some (.inl (i + 1))] ⟨rfl, ⟨rfl, ⟨rfl, ⟨rfl, ⟨rfl, trivial⟩⟩⟩⟩⟩ ?_
      rw [fst_f hi2 (decide_eq_false zc2)]
      exact ih
    · replace zc2 : (sideS tb r a i) = b := Decidable.not_not.mp zc2
      refine m_run 1 (ps' := (26, [some (.inr (.inl 2)), some (.inl a), some (.inl b), some (.inl (bI r)), some (.inl i)], [.inl i], mW (n, T, h, t, x) M, 0, 0)) rfl ?_
      exact m_ret1 rfl (Or.inl rfl) rfl (m_Vi (fst_t hi2 (decide_eq_true zc2)).symm)
set_option maxHeartbeats 4000000 in
set_option maxRecDepth 100000 in
theorem k_low {X : Nat × Nat × (Nat → Int32)} {n : Int} {T : Int → Int} {h : HS} {t : TS} {x : XS} {M : MS} {tb : Int → Int → Int} {a b : Int} {r : Bool} (hR : repC n T tb) (ha : 0 ≤ a) (ha2 : a < n) (hb : 0 ≤ b) (hb2 : b < n) : m_Run X 19 [.inr (.inl 2), .inl a, .inl b, .inl (bI r)] (mW (n, T, h, t, x) M) (m_V (fstF (fun i => decide (sideS tb r a i = b)) n.toNat 0) (mW (n, T, h, t, x) M)) := by
  have hn := hR.1
  have hl := okN_lo hn
  show m_Sem X 19 (0, [some (.inr (.inl 2)), some (.inl a), some (.inl b), some (.inl (bI r)), none], [], mW (n, T, h, t, x) M, 0, 0) _
  refine m_run 2 (ps' := (3, [some (.inr (.inl 2)), some (.inl a), some (.inl b), some (.inl (bI r)), some (.inl 0)], [], mW (n, T, h, t, x) M, 0, 0)) rfl ?_
  refine m_weak [some (.inr (.inl 2)), some (.inl a), some (.inl b), some (.inl (bI r)), some (.inl 0)] ⟨rfl, ⟨rfl, ⟨rfl, ⟨rfl, ⟨rfl, trivial⟩⟩⟩⟩⟩ ?_
  have h0 := l_low (X := X) (h := h) (t := t) (x := x) (M := M) (r := r) hR ha ha2 hb hb2 0 (by omega) (by omega)
  rw [z_sub] at h0
  exact h0
theorem mul_b {x y B C : Int} (h1 : 0 ≤ x) (h2 : x ≤ B) (h3 : 0 ≤ y) (h4 : y ≤ C) : 0 ≤ x * y ∧ x * y ≤ B * C := ⟨Int.mul_nonneg h1 h3, Int.mul_le_mul h2 h4 h3 (by omega)⟩
theorem m_up_id (f : Int → Int) {j v : Int} (h : f j = v) : f = m_up f j v := by
  funext i
  unfold m_up
  split
  next hi => rw [hi, h]
  next => rfl
set_option maxHeartbeats 4000000 in
set_option maxRecDepth 100000 in
theorem k_fp {X : Nat × Nat × (Nat → Int32)} {n : Int} {T : Int → Int} {h : HS} {t : TS} {x : XS} {M : MS} {a b : Int} (hn : okN n) (ha : 0 ≤ a) (ha2 : a < n) (hb : 0 ≤ b) (hb2 : b < n) : m_Run X 27 [.inl n, .inl a, .inl b] (mW (n, T, h, t, x) M) (m_V (fpS n a b) (mW (n, T, h, t, x) M)) := by
  have hl := okN_lo hn
  have p0 := mul_b (x := a) (y := b) (B := 8) (C := 8) ha (by omega) hb (by omega)
  have p1 := mul_b (x := a / 3) (y := b % 3) (B := 2) (C := 2) (by omega) (by omega) (by omega) (by omega)
  have p2 := mul_b (x := a % 3) (y := b / 3) (B := 2) (C := 2) (by omega) (by omega) (by omega) (by omega)
  have p3 := mul_b (x := a % 3) (y := b % 3) (B := 2) (C := 2) (by omega) (by omega) (by omega) (by omega)
  have p4 := mul_b (x := a / 3) (y := b / 3) (B := 2) (C := 2) (by omega) (by omega) (by omega) (by omega)
  show m_Sem X 27 (0, [some (.inl n), some (.inl a), some (.inl b), none, none, none, none], [], mW (n, T, h, t, x) M, 0, 0) _
  refine m_run 2 (ps' := (2, [some (.inl n), some (.inl a), some (.inl b), none, none, none, none], [.inl 4, .inl n], mW (n, T, h, t, x) M, 0, 0)) rfl ?_
  refine m_icmp rfl ⟨by omega, by omega⟩ ⟨by omega, by omega⟩ (fun (zc1 : ¬ n = 4) => ?_) (fun (zc1 : ¬ ¬ n = 4) => ?_)
  · refine m_run 2 (ps' := (30, [some (.inl n), some (.inl a), some (.inl b), none, none, none, none], [.inl 9, .inl n], mW (n, T, h, t, x) M, 0, 0)) rfl ?_
    refine m_icmp rfl ⟨by omega, by omega⟩ ⟨by omega, by omega⟩ (fun (zc2 : ¬ n = 9) => ?_) (fun (zc2 : ¬ ¬ n = 9) => ?_)
    · refine m_run 1 (ps' := (84, [some (.inl n), some (.inl a), some (.inl b), none, none, none, none], [.inl n], mW (n, T, h, t, x) M, 0, 0)) rfl ?_
      refine m_if rfl ⟨by omega, by omega⟩ (fun (zc3 : n ≤ 0) => ?_) (fun (zc3 : ¬ n ≤ 0) => ?_)
      · refine m_run 1 (ps' := (96, [some (.inl n), some (.inl a), some (.inl b), none, none, none, none], [.inl 0], mW (n, T, h, t, x) M, 0, 0)) rfl ?_
        exact m_ret1 rfl (Or.inl rfl) rfl (m_Vi (by unfold fpS; (repeat' split) <;> first | rfl | omega))
      · refine m_run 4 (ps' := (91, [some (.inl n), some (.inl a), some (.inl b), none, none, none, none], [.inl n, .inl (a * b)], mW (n, T, h, t, x) M, 0, 0)) rfl ?_
        refine m_rem rfl (by omega) (by omega) (by omega) (by omega) ?_
        refine m_run 1 (ps' := (96, [some (.inl n), some (.inl a), some (.inl b), none, none, none, none], [.inl ((a * b) % n)], mW (n, T, h, t, x) M, 0, 0)) rfl ?_
        exact m_ret1 rfl (Or.inl rfl) rfl (m_Vi (by unfold fpS; (repeat' split) <;> first | rfl | omega))
    · replace zc2 : n = 9 := Decidable.not_not.mp zc2
      refine m_run 2 (ps' := (35, [some (.inl n), some (.inl a), some (.inl b), none, none, none, none], [.inl 3, .inl a], mW (n, T, h, t, x) M, 0, 0)) rfl ?_
      refine m_div rfl (by omega) (by omega) (by omega) (by omega) ?_
      refine m_run 3 (ps' := (39, [some (.inl n), some (.inl a), some (.inl b), some (.inl (a / 3)), none, none, none], [.inl 3, .inl a], mW (n, T, h, t, x) M, 0, 0)) rfl ?_
      refine m_rem rfl (by omega) (by omega) (by omega) (by omega) ?_
      refine m_run 3 (ps' := (44, [some (.inl n), some (.inl a), some (.inl b), some (.inl (a / 3)), some (.inl (a % 3)), none, none], [.inl 3, .inl b], mW (n, T, h, t, x) M, 0, 0)) rfl ?_
      refine m_div rfl (by omega) (by omega) (by omega) (by omega) ?_
      refine m_run 3 (ps' := (49, [some (.inl n), some (.inl a), some (.inl b), some (.inl (a / 3)), some (.inl (a % 3)), some (.inl (b / 3)), none], [.inl 3, .inl b], mW (n, T, h, t, x) M, 0, 0)) rfl ?_
      refine m_rem rfl (by omega) (by omega) (by omega) (by omega) ?_
      refine m_run 10 (ps' := (64, [some (.inl n), some (.inl a), some (.inl b), some (.inl (a / 3)), some (.inl (a % 3)), some (.inl (b / 3)), some (.inl (b % 3))], [.inl 3, .inl (((a / 3) * (b % 3)) + ((a % 3) * (b / 3))), .inl 3], mW (n, T, h, t, x) M, 0, 0)) rfl ?_
      refine m_rem rfl (by omega) (by omega) (by omega) (by omega) ?_
      refine m_run 11 (ps' := (80, [some (.inl n), some (.inl a), some (.inl b), some (.inl (a / 3)), some (.inl (a % 3)), some (.inl (b / 3)), some (.inl (b % 3))], [.inl 3, .inl ((((a % 3) * (b % 3)) - ((a / 3) * (b / 3))) + 6), .inl (3 * ((((a / 3) * (b % 3)) + ((a % 3) * (b / 3))) % 3))], mW (n, T, h, t, x) M, 0, 0)) rfl ?_
      refine m_rem rfl (by omega) (by omega) (by omega) (by omega) ?_
      refine m_run 1 (ps' := (82, [some (.inl n), some (.inl a), some (.inl b), some (.inl (a / 3)), some (.inl (a % 3)), some (.inl (b / 3)), some (.inl (b % 3))], [.inl ((3 * ((((a / 3) * (b % 3)) + ((a % 3) * (b / 3))) % 3)) + (((((a % 3) * (b % 3)) - ((a / 3) * (b / 3))) + 6) % 3))], mW (n, T, h, t, x) M, 0, 0)) rfl ?_
      exact m_ret1 rfl (Or.inl rfl) rfl (m_Vi (by unfold fpS; (repeat' split) <;> first | rfl | omega))
  · replace zc1 : n = 4 := Decidable.not_not.mp zc1
    refine m_run 1 (ps' := (6, [some (.inl n), some (.inl a), some (.inl b), none, none, none, none], [.inl a], mW (n, T, h, t, x) M, 0, 0)) rfl ?_
    refine m_if rfl ⟨by omega, by omega⟩ (fun (zc2 : a = 0) => ?_) (fun (zc2 : ¬ a = 0) => ?_)
    · refine m_run 2 (ps' := (26, [some (.inl n), some (.inl a), some (.inl b), none, none, none, none], [.inl 0], mW (n, T, h, t, x) M, 0, 0)) rfl ?_
      exact m_ret1 rfl (Or.inl rfl) rfl (m_Vi (by unfold fpS; (repeat' split) <;> first | rfl | omega))
    · refine m_run 1 (ps' := (10, [some (.inl n), some (.inl a), some (.inl b), none, none, none, none], [.inl b], mW (n, T, h, t, x) M, 0, 0)) rfl ?_
      refine m_if rfl ⟨by omega, by omega⟩ (fun (zc3 : ¬ b = 0) => ?_) (fun (zc3 : ¬ ¬ b = 0) => ?_)
      · refine m_run 7 (ps' := (24, [some (.inl n), some (.inl a), some (.inl b), none, none, none, none], [.inl 3, .inl ((a + b) - 2), .inl 1], mW (n, T, h, t, x) M, 0, 0)) rfl ?_
        refine m_rem rfl (by omega) (by omega) (by omega) (by omega) ?_
        refine m_run 1 (ps' := (26, [some (.inl n), some (.inl a), some (.inl b), none, none, none, none], [.inl (1 + (((a + b) - 2) % 3))], mW (n, T, h, t, x) M, 0, 0)) rfl ?_
        exact m_ret1 rfl (Or.inl rfl) rfl (m_Vi (by unfold fpS; (repeat' split) <;> first | rfl | omega))
      · replace zc3 : b = 0 := Decidable.not_not.mp zc3
        refine m_run 2 (ps' := (26, [some (.inl n), some (.inl a), some (.inl b), none, none, none, none], [.inl 0], mW (n, T, h, t, x) M, 0, 0)) rfl ?_
        exact m_ret1 rfl (Or.inl rfl) rfl (m_Vi (by unfold fpS; (repeat' split) <;> first | rfl | omega))
def sqS (n b : Int) : Bool := ! allF (fun x => ! decide (fpS n x x = b)) n.toNat 0
set_option maxHeartbeats 4000000 in
set_option maxRecDepth 100000 in
theorem l_sq {X : Nat × Nat × (Nat → Int32)} {n : Int} {T : Int → Int} {h : HS} {t : TS} {x : XS} {M : MS} {b : Int} (hn : okN n) (hb : m_R b) : ∀ i : Int, 0 ≤ i → i ≤ n → m_Sem X 26 (2, [some (.inr (.inl 2)), some (.inl b), some (.inl i)], [], mW (n, T, h, t, x) M, 0, 0) (m_V (bI (! allF (fun x => ! decide (fpS n x x = b)) (n - i).toNat i)) (mW (n, T, h, t, x) M)) := by
  have hl := okN_lo hn
  refine m_down 0 n ?_ ?_
  · show m_Sem X 26 (2, [some (.inr (.inl 2)), some (.inl b), some (.inl n)], [], mW (n, T, h, t, x) M, 0, 0) _
    refine m_run 3 (ps' := (7, [some (.inr (.inl 2)), some (.inl b), some (.inl n)], [.inl n, .inl n], mW (n, T, h, t, x) M, 0, 0)) rfl ?_
    refine m_icmp rfl ⟨by omega, by omega⟩ ⟨by omega, by omega⟩ (fun (zc1 : n ≤ n) => ?_) (fun (zc1 : ¬ n ≤ n) => absurd zc1 (not_not_intro (by omega)))
    refine m_run 1 (ps' := (32, [some (.inr (.inl 2)), some (.inl b), some (.inl n)], [.inl 0], mW (n, T, h, t, x) M, 0, 0)) rfl ?_
    exact m_ret1 rfl (Or.inr ⟨rfl, Or.inl rfl⟩) rfl (m_Vi (by rw [all_end]; rfl))
  · intro i hi1 hi2 ih 
    refine m_run 3 (ps' := (7, [some (.inr (.inl 2)), some (.inl b), some (.inl i)], [.inl n, .inl i], mW (n, T, h, t, x) M, 0, 0)) rfl ?_
    refine m_icmp rfl ⟨by omega, by omega⟩ ⟨by omega, by omega⟩ (fun (zc1 : n ≤ i) => absurd zc1 (by omega)) (fun (zc1 : ¬ n ≤ i) => ?_)
    refine m_run 4 (ps' := (16, [some (.inr (.inl 2)), some (.inl b), some (.inl i)], [.inl i, .inl i, .inl n], mW (n, T, h, t, x) M, 0, 0)) rfl ?_
    refine m_callSF [.inl n, .inl i, .inl i] [] rfl rfl rfl (k_fp (a := i) (b := i) hn (by omega) (by omega) (by omega) (by omega)) ?_
    have zt1 := fpS_in (n := n) (a := i) (b := i) hn (by omega) (by omega) (by omega) (by omega)
    show m_Sem X 26 (19, [some (.inr (.inl 2)), some (.inl b), some (.inl i)], [.inl (fpS n i i)], mW (n, T, h, t, x) M, 0, 0) _
    refine m_run 1 (ps' := (20, [some (.inr (.inl 2)), some (.inl b), some (.inl i)], [.inl b, .inl (fpS n i i)], mW (n, T, h, t, x) M, 0, 0)) rfl ?_
    refine m_icmp rfl ⟨by omega, by omega⟩ hb (fun (zc2 : ¬ (fpS n i i) = b) => ?_) (fun (zc2 : ¬ ¬ (fpS n i i) = b) => ?_)
    · refine m_run 2 (ps' := (2, [some (.inr (.inl 2)), some (.inl b), some (.inl (i + 1))], [], mW (n, T, h, t, x) M, 0, 0)) rfl ?_
      refine m_weak [some (.inr (.inl 2)), some (.inl b), some (.inl (i + 1))] ⟨rfl, ⟨rfl, ⟨rfl, trivial⟩⟩⟩ ?_
      rw [all_t hi2 (by rw [decide_eq_false zc2]; rfl)]
      exact ih
    · replace zc2 : (fpS n i i) = b := Decidable.not_not.mp zc2
      refine m_run 1 (ps' := (24, [some (.inr (.inl 2)), some (.inl b), some (.inl i)], [.inl 1], mW (n, T, h, t, x) M, 0, 0)) rfl ?_
      exact m_ret1 rfl (Or.inr ⟨rfl, Or.inr rfl⟩) rfl (m_Vi (by rw [all_f hi2 (by rw [decide_eq_true zc2]; rfl)]; rfl))
set_option maxHeartbeats 4000000 in
set_option maxRecDepth 100000 in
theorem k_sq {X : Nat × Nat × (Nat → Int32)} {n : Int} {T : Int → Int} {h : HS} {t : TS} {x : XS} {M : MS} {b : Int} (hn : okN n) (hb : m_R b) : m_Run X 26 [.inr (.inl 2), .inl b] (mW (n, T, h, t, x) M) (m_V (bI (sqS n b)) (mW (n, T, h, t, x) M)) := by
  have hl := okN_lo hn
  show m_Sem X 26 (0, [some (.inr (.inl 2)), some (.inl b), none], [], mW (n, T, h, t, x) M, 0, 0) _
  refine m_run 2 (ps' := (2, [some (.inr (.inl 2)), some (.inl b), some (.inl 0)], [], mW (n, T, h, t, x) M, 0, 0)) rfl ?_
  refine m_weak [some (.inr (.inl 2)), some (.inl b), some (.inl 0)] ⟨rfl, ⟨rfl, ⟨rfl, trivial⟩⟩⟩ ?_
  have h0 := l_sq (X := X) (T := T) (h := h) (t := t) (x := x) (M := M) hn hb 0 (by omega) (by omega)
  rw [z_sub] at h0
  exact h0
set_option maxHeartbeats 4000000 in
set_option maxRecDepth 100000 in
theorem k_set {X : Nat × Nat × (Nat → Int32)} {n : Int} {T : Int → Int} {h : HS} {t : TS} {x : XS} {M : MS} {a b r : Int} (hr : m_R r) (hT : m_R (T (9 * a + b))) (h1 : 0 ≤ 9 * a + b) (h2 : 9 * a + b < 81) (h3 : m_R a) (h4 : m_R b) : m_Run X 20 [.inr (.inl 2), .inl a, .inl b, .inl r] (mW (n, T, h, t, x) M) (m_V (if T (9 * a + b) = r then 0 else 1) (mW (n, (m_up T (9 * a + b) r), h, t, x) M)) := by
  show m_Sem X 20 (0, [some (.inr (.inl 2)), some (.inl a), some (.inl b), some (.inl r), none], [], mW (n, T, h, t, x) M, 0, 0) _
  refine m_run 7 (ps' := (10, [some (.inr (.inl 2)), some (.inl a), some (.inl b), some (.inl r), some (.inl ((9 * a) + b))], [.inl ((9 * a) + b)], mW (n, T, h, t, x) M, 0, 0)) rfl ?_
  refine m_if rfl ⟨by omega, by omega⟩ (fun (zc1 : ((9 * a) + b) < 0) => absurd zc1 (by omega)) (fun (zc1 : ¬ ((9 * a) + b) < 0) => ?_)
  refine m_run 4 (ps' := (20, [some (.inr (.inl 2)), some (.inl a), some (.inl b), some (.inl r), some (.inl ((9 * a) + b))], [.inl 81, .inl ((9 * a) + b)], mW (n, T, h, t, x) M, 0, 0)) rfl ?_
  refine m_icmp rfl ⟨by omega, by omega⟩ ⟨by omega, by omega⟩ (fun (zc2 : 81 ≤ ((9 * a) + b)) => absurd zc2 (by omega)) (fun (zc2 : ¬ 81 ≤ ((9 * a) + b)) => ?_)
  refine m_run 3 (ps' := (29, [some (.inr (.inl 2)), some (.inl a), some (.inl b), some (.inl r), some (.inl ((9 * a) + b))], [.inl ((9 * a) + b), .inr (.inl 3)], mW (n, T, h, t, x) M, 0, 0)) rfl ?_
  refine m_iald rfl rfl (by omega) (by omega) (by decide) ?_
  refine m_run 1 (ps' := (31, [some (.inr (.inl 2)), some (.inl a), some (.inl b), some (.inl r), some (.inl ((9 * a) + b))], [.inl r, .inl (T ((9 * a) + b))], mW (n, T, h, t, x) M, 0, 0)) rfl ?_
  refine m_icmp rfl hT hr (fun (zc3 : ¬ (T ((9 * a) + b)) = r) => ?_) (fun (zc3 : ¬ ¬ (T ((9 * a) + b)) = r) => ?_)
  · refine m_run 4 (ps' := (43, [some (.inr (.inl 2)), some (.inl a), some (.inl b), some (.inl r), some (.inl ((9 * a) + b))], [.inl r, .inl ((9 * a) + b), .inr (.inl 3)], mW (n, T, h, t, x) M, 0, 0)) rfl ?_
    refine m_iast rfl rfl (by omega) (by omega) (by decide) ?_
    show m_Sem X 20 (44, [some (.inr (.inl 2)), some (.inl a), some (.inl b), some (.inl r), some (.inl ((9 * a) + b))], [], mW (n, (m_up T ((9 * a) + b) r), h, t, x) M, 0, 0) _
    refine m_run 1 (ps' := (45, [some (.inr (.inl 2)), some (.inl a), some (.inl b), some (.inl r), some (.inl ((9 * a) + b))], [.inl 1], mW (n, (m_up T ((9 * a) + b) r), h, t, x) M, 0, 0)) rfl ?_
    exact m_ret1 rfl (Or.inl rfl) rfl (m_Vi (by rw [if_neg zc3]))
  · replace zc3 : (T ((9 * a) + b)) = r := Decidable.not_not.mp zc3
    refine m_run 1 (ps' := (35, [some (.inr (.inl 2)), some (.inl a), some (.inl b), some (.inl r), some (.inl ((9 * a) + b))], [.inl 0], mW (n, T, h, t, x) M, 0, 0)) rfl ?_
    exact m_ret1 rfl (Or.inl rfl) rfl (m_Vw (by rw [if_pos zc3]) (by rw [← m_up_id T zc3]))
def zeroS (n : Int) (tb : Int → Int → Int) : Int := sumF (fun a => sumF (fun b => (if tb a b = 0 then 1 else 0)) n.toNat 0) n.toNat 0
set_option maxHeartbeats 4000000 in
set_option maxRecDepth 100000 in
theorem l_zeroI {X : Nat × Nat × (Nat → Int32)} {n : Int} {T : Int → Int} {h : HS} {t : TS} {x : XS} {M : MS} {tb : Int → Int → Int} {a : Int} {Q : Option mPV → mPW → Prop} {v : Int} (hR : repC n T tb) (ha : 0 ≤ a) (ha2 : a < n) (K : m_Sem X 25 (4, [some (.inr (.inl 2)), some (.inl v), some (.inl (a + 1)), none], [], mW (n, T, h, t, x) M, 0, 0) Q) : ∀ b : Int, 0 ≤ b → b ≤ n → ∀ (u : Int) (hu : u + sumF (fun b => (if tb a b = 0 then 1 else 0)) (n - b).toNat b = v), m_Sem X 25 (14, [some (.inr (.inl 2)), some (.inl u), some (.inl a), some (.inl b)], [], mW (n, T, h, t, x) M, 0, 0) (Q) := by
  have hn := hR.1
  have hl := okN_lo hn
  refine m_down 0 n ?_ ?_
  · intro u hu
    rw [sum_end] at hu
    have hu : u = v := by omega
    subst hu
    show m_Sem X 25 (14, [some (.inr (.inl 2)), some (.inl u), some (.inl a), some (.inl n)], [], mW (n, T, h, t, x) M, 0, 0) _
    refine m_run 3 (ps' := (19, [some (.inr (.inl 2)), some (.inl u), some (.inl a), some (.inl n)], [.inl n, .inl n], mW (n, T, h, t, x) M, 0, 0)) rfl ?_
    refine m_icmp rfl ⟨by omega, by omega⟩ ⟨by omega, by omega⟩ (fun (zc1 : n ≤ n) => ?_) (fun (zc1 : ¬ n ≤ n) => absurd zc1 (not_not_intro (by omega)))
    refine m_run 2 (ps' := (4, [some (.inr (.inl 2)), some (.inl u), some (.inl (a + 1)), some (.inl n)], [], mW (n, T, h, t, x) M, 0, 0)) rfl ?_
    refine m_weak [some (.inr (.inl 2)), some (.inl u), some (.inl (a + 1)), none] ⟨rfl, ⟨rfl, ⟨rfl, trivial⟩⟩⟩ ?_
    exact K
  · intro b hi1 hi2 ih u hu
    rw [sum_step hi2] at hu
    refine m_run 3 (ps' := (19, [some (.inr (.inl 2)), some (.inl u), some (.inl a), some (.inl b)], [.inl n, .inl b], mW (n, T, h, t, x) M, 0, 0)) rfl ?_
    refine m_icmp rfl ⟨by omega, by omega⟩ ⟨by omega, by omega⟩ (fun (zc1 : n ≤ b) => absurd zc1 (by omega)) (fun (zc1 : ¬ n ≤ b) => ?_)
    refine m_run 3 (ps' := (25, [some (.inr (.inl 2)), some (.inl u), some (.inl a), some (.inl b)], [.inl b, .inl a, .inr (.inl 2)], mW (n, T, h, t, x) M, 0, 0)) rfl ?_
    refine m_callVF [.inl a, .inl b] [] rfl rfl ⟨_, rfl, rfl⟩ rfl rfl (k_times (a := a) (b := b) hR (by omega) (by omega) (by omega) (by omega)) ?_
    have zt1 := (hR.2 a b (by omega) (by omega) (by omega) (by omega)).2
    show m_Sem X 25 (28, [some (.inr (.inl 2)), some (.inl u), some (.inl a), some (.inl b)], [.inl (tb a b)], mW (n, T, h, t, x) M, 0, 0) _
    refine m_if rfl ⟨by omega, by omega⟩ (fun (zc2 : ¬ (tb a b) = 0) => ?_) (fun (zc2 : ¬ ¬ (tb a b) = 0) => ?_)
    · refine m_run 2 (ps' := (14, [some (.inr (.inl 2)), some (.inl u), some (.inl a), some (.inl (b + 1))], [], mW (n, T, h, t, x) M, 0, 0)) rfl ?_
      refine m_weak [some (.inr (.inl 2)), some (.inl u), some (.inl a), some (.inl (b + 1))] ⟨rfl, ⟨rfl, ⟨rfl, ⟨rfl, trivial⟩⟩⟩⟩ ?_
      refine ih _ ?_
      rw [← hu]
      simp only [zc2, if_true, if_false]
      omega
    · replace zc2 : (tb a b) = 0 := Decidable.not_not.mp zc2
      refine m_run 3 (ps' := (14, [some (.inr (.inl 2)), some (.inl (u + 1)), some (.inl a), some (.inl (b + 1))], [], mW (n, T, h, t, x) M, 0, 0)) rfl ?_
      refine m_weak [some (.inr (.inl 2)), some (.inl (u + 1)), some (.inl a), some (.inl (b + 1))] ⟨rfl, ⟨rfl, ⟨rfl, ⟨rfl, trivial⟩⟩⟩⟩ ?_
      refine ih _ ?_
      rw [← hu]
      simp only [zc2, if_true, if_false]
      omega
set_option maxHeartbeats 4000000 in
set_option maxRecDepth 100000 in
theorem l_zeroO {X : Nat × Nat × (Nat → Int32)} {n : Int} {T : Int → Int} {h : HS} {t : TS} {x : XS} {M : MS} {tb : Int → Int → Int} {Q : Option mPV → mPW → Prop} {v : Int} (hR : repC n T tb) (K : Q (some (.inl v)) (mW (n, T, h, t, x) M)) : ∀ a : Int, 0 ≤ a → a ≤ n → ∀ (u : Int) (hu : u + sumF (fun a => sumF (fun b => (if tb a b = 0 then 1 else 0)) n.toNat 0) (n - a).toNat a = v), m_Sem X 25 (4, [some (.inr (.inl 2)), some (.inl u), some (.inl a), none], [], mW (n, T, h, t, x) M, 0, 0) (Q) := by
  have hn := hR.1
  have hl := okN_lo hn
  refine m_down 0 n ?_ ?_
  · intro u hu
    rw [sum_end] at hu
    have hu : u = v := by omega
    subst hu
    show m_Sem X 25 (4, [some (.inr (.inl 2)), some (.inl u), some (.inl n), none], [], mW (n, T, h, t, x) M, 0, 0) _
    refine m_run 3 (ps' := (9, [some (.inr (.inl 2)), some (.inl u), some (.inl n), none], [.inl n, .inl n], mW (n, T, h, t, x) M, 0, 0)) rfl ?_
    refine m_icmp rfl ⟨by omega, by omega⟩ ⟨by omega, by omega⟩ (fun (zc1 : n ≤ n) => ?_) (fun (zc1 : ¬ n ≤ n) => absurd zc1 (not_not_intro (by omega)))
    refine m_run 1 (ps' := (47, [some (.inr (.inl 2)), some (.inl u), some (.inl n), none], [.inl u], mW (n, T, h, t, x) M, 0, 0)) rfl ?_
    exact m_ret1 rfl (Or.inl rfl) rfl K
  · intro a hi1 hi2 ih u hu
    rw [sum_step hi2] at hu
    refine m_run 3 (ps' := (9, [some (.inr (.inl 2)), some (.inl u), some (.inl a), none], [.inl n, .inl a], mW (n, T, h, t, x) M, 0, 0)) rfl ?_
    refine m_icmp rfl ⟨by omega, by omega⟩ ⟨by omega, by omega⟩ (fun (zc1 : n ≤ a) => absurd zc1 (by omega)) (fun (zc1 : ¬ n ≤ a) => ?_)
    refine m_run 2 (ps' := (14, [some (.inr (.inl 2)), some (.inl u), some (.inl a), some (.inl 0)], [], mW (n, T, h, t, x) M, 0, 0)) rfl ?_
    refine m_weak [some (.inr (.inl 2)), some (.inl u), some (.inl a), some (.inl 0)] ⟨rfl, ⟨rfl, ⟨rfl, ⟨rfl, trivial⟩⟩⟩⟩ ?_
    refine l_zeroI (v := u + sumF (fun b => (if tb a b = 0 then 1 else 0)) n.toNat 0) hR hi1 hi2 ?_ 0 (by omega) (by omega) u (by rw [z_sub])
    exact ih _ (by rw [← hu]; omega)
set_option maxHeartbeats 4000000 in
set_option maxRecDepth 100000 in
theorem k_zero {X : Nat × Nat × (Nat → Int32)} {n : Int} {T : Int → Int} {h : HS} {t : TS} {x : XS} {M : MS} {tb : Int → Int → Int} (hR : repC n T tb) : m_Run X 25 [.inr (.inl 2)] (mW (n, T, h, t, x) M) (m_V (zeroS n tb) (mW (n, T, h, t, x) M)) := by
  have hn := hR.1
  have hl := okN_lo hn
  show m_Sem X 25 (0, [some (.inr (.inl 2)), none, none, none], [], mW (n, T, h, t, x) M, 0, 0) _
  refine m_run 4 (ps' := (4, [some (.inr (.inl 2)), some (.inl 0), some (.inl 0), none], [], mW (n, T, h, t, x) M, 0, 0)) rfl ?_
  refine m_weak [some (.inr (.inl 2)), some (.inl 0), some (.inl 0), none] ⟨rfl, ⟨rfl, ⟨rfl, trivial⟩⟩⟩ ?_
  exact l_zeroO (v := zeroS n tb) hR ⟨rfl, rfl⟩ 0 (by omega) (by omega) 0 (by rw [z_sub, Int.zero_add]; rfl)
def unlS (n : Int) (tb : Int → Int → Int) : Int := sumF (fun a => sumF (fun b => (if tb a b = fpS n a b then 0 else 1)) n.toNat 0) n.toNat 0
set_option maxHeartbeats 4000000 in
set_option maxRecDepth 100000 in
theorem l_unlI {X : Nat × Nat × (Nat → Int32)} {n : Int} {T : Int → Int} {h : HS} {t : TS} {x : XS} {M : MS} {tb : Int → Int → Int} {a : Int} {Q : Option mPV → mPW → Prop} {v : Int} (hR : repC n T tb) (ha : 0 ≤ a) (ha2 : a < n) (K : m_Sem X 24 (4, [some (.inr (.inl 2)), some (.inl v), some (.inl (a + 1)), none], [], mW (n, T, h, t, x) M, 0, 0) Q) : ∀ b : Int, 0 ≤ b → b ≤ n → ∀ (u : Int) (hu : u + sumF (fun b => (if tb a b = fpS n a b then 0 else 1)) (n - b).toNat b = v), m_Sem X 24 (14, [some (.inr (.inl 2)), some (.inl u), some (.inl a), some (.inl b)], [], mW (n, T, h, t, x) M, 0, 0) (Q) := by
  have hn := hR.1
  have hl := okN_lo hn
  refine m_down 0 n ?_ ?_
  · intro u hu
    rw [sum_end] at hu
    have hu : u = v := by omega
    subst hu
    show m_Sem X 24 (14, [some (.inr (.inl 2)), some (.inl u), some (.inl a), some (.inl n)], [], mW (n, T, h, t, x) M, 0, 0) _
    refine m_run 3 (ps' := (19, [some (.inr (.inl 2)), some (.inl u), some (.inl a), some (.inl n)], [.inl n, .inl n], mW (n, T, h, t, x) M, 0, 0)) rfl ?_
    refine m_icmp rfl ⟨by omega, by omega⟩ ⟨by omega, by omega⟩ (fun (zc1 : n ≤ n) => ?_) (fun (zc1 : ¬ n ≤ n) => absurd zc1 (not_not_intro (by omega)))
    refine m_run 2 (ps' := (4, [some (.inr (.inl 2)), some (.inl u), some (.inl (a + 1)), some (.inl n)], [], mW (n, T, h, t, x) M, 0, 0)) rfl ?_
    refine m_weak [some (.inr (.inl 2)), some (.inl u), some (.inl (a + 1)), none] ⟨rfl, ⟨rfl, ⟨rfl, trivial⟩⟩⟩ ?_
    exact K
  · intro b hi1 hi2 ih u hu
    rw [sum_step hi2] at hu
    refine m_run 3 (ps' := (19, [some (.inr (.inl 2)), some (.inl u), some (.inl a), some (.inl b)], [.inl n, .inl b], mW (n, T, h, t, x) M, 0, 0)) rfl ?_
    refine m_icmp rfl ⟨by omega, by omega⟩ ⟨by omega, by omega⟩ (fun (zc1 : n ≤ b) => absurd zc1 (by omega)) (fun (zc1 : ¬ n ≤ b) => ?_)
    refine m_run 3 (ps' := (25, [some (.inr (.inl 2)), some (.inl u), some (.inl a), some (.inl b)], [.inl b, .inl a, .inr (.inl 2)], mW (n, T, h, t, x) M, 0, 0)) rfl ?_
    refine m_callVF [.inl a, .inl b] [] rfl rfl ⟨_, rfl, rfl⟩ rfl rfl (k_times (a := a) (b := b) hR (by omega) (by omega) (by omega) (by omega)) ?_
    have zt1 := (hR.2 a b (by omega) (by omega) (by omega) (by omega)).2
    show m_Sem X 24 (28, [some (.inr (.inl 2)), some (.inl u), some (.inl a), some (.inl b)], [.inl (tb a b)], mW (n, T, h, t, x) M, 0, 0) _
    refine m_run 4 (ps' := (34, [some (.inr (.inl 2)), some (.inl u), some (.inl a), some (.inl b)], [.inl b, .inl a, .inl n, .inl (tb a b)], mW (n, T, h, t, x) M, 0, 0)) rfl ?_
    refine m_callSF [.inl n, .inl a, .inl b] [.inl (tb a b)] rfl rfl rfl (k_fp (a := a) (b := b) hn (by omega) (by omega) (by omega) (by omega)) ?_
    have zt2 := fpS_in (n := n) (a := a) (b := b) hn (by omega) (by omega) (by omega) (by omega)
    show m_Sem X 24 (37, [some (.inr (.inl 2)), some (.inl u), some (.inl a), some (.inl b)], [.inl (fpS n a b), .inl (tb a b)], mW (n, T, h, t, x) M, 0, 0) _
    refine m_icmp rfl ⟨by omega, by omega⟩ ⟨by omega, by omega⟩ (fun (zc2 : (tb a b) = (fpS n a b)) => ?_) (fun (zc2 : ¬ (tb a b) = (fpS n a b)) => ?_)
    · refine m_run 2 (ps' := (14, [some (.inr (.inl 2)), some (.inl u), some (.inl a), some (.inl (b + 1))], [], mW (n, T, h, t, x) M, 0, 0)) rfl ?_
      refine m_weak [some (.inr (.inl 2)), some (.inl u), some (.inl a), some (.inl (b + 1))] ⟨rfl, ⟨rfl, ⟨rfl, ⟨rfl, trivial⟩⟩⟩⟩ ?_
      refine ih _ ?_
      rw [← hu]
      simp only [zc2, if_true, if_false]
      omega
    · refine m_run 3 (ps' := (14, [some (.inr (.inl 2)), some (.inl (u + 1)), some (.inl a), some (.inl (b + 1))], [], mW (n, T, h, t, x) M, 0, 0)) rfl ?_
      refine m_weak [some (.inr (.inl 2)), some (.inl (u + 1)), some (.inl a), some (.inl (b + 1))] ⟨rfl, ⟨rfl, ⟨rfl, ⟨rfl, trivial⟩⟩⟩⟩ ?_
      refine ih _ ?_
      rw [← hu]
      simp only [zc2, if_true, if_false]
      omega
set_option maxHeartbeats 4000000 in
set_option maxRecDepth 100000 in
theorem l_unlO {X : Nat × Nat × (Nat → Int32)} {n : Int} {T : Int → Int} {h : HS} {t : TS} {x : XS} {M : MS} {tb : Int → Int → Int} {Q : Option mPV → mPW → Prop} {v : Int} (hR : repC n T tb) (K : Q (some (.inl v)) (mW (n, T, h, t, x) M)) : ∀ a : Int, 0 ≤ a → a ≤ n → ∀ (u : Int) (hu : u + sumF (fun a => sumF (fun b => (if tb a b = fpS n a b then 0 else 1)) n.toNat 0) (n - a).toNat a = v), m_Sem X 24 (4, [some (.inr (.inl 2)), some (.inl u), some (.inl a), none], [], mW (n, T, h, t, x) M, 0, 0) (Q) := by
  have hn := hR.1
  have hl := okN_lo hn
  refine m_down 0 n ?_ ?_
  · intro u hu
    rw [sum_end] at hu
    have hu : u = v := by omega
    subst hu
    show m_Sem X 24 (4, [some (.inr (.inl 2)), some (.inl u), some (.inl n), none], [], mW (n, T, h, t, x) M, 0, 0) _
    refine m_run 3 (ps' := (9, [some (.inr (.inl 2)), some (.inl u), some (.inl n), none], [.inl n, .inl n], mW (n, T, h, t, x) M, 0, 0)) rfl ?_
    refine m_icmp rfl ⟨by omega, by omega⟩ ⟨by omega, by omega⟩ (fun (zc1 : n ≤ n) => ?_) (fun (zc1 : ¬ n ≤ n) => absurd zc1 (not_not_intro (by omega)))
    refine m_run 1 (ps' := (56, [some (.inr (.inl 2)), some (.inl u), some (.inl n), none], [.inl u], mW (n, T, h, t, x) M, 0, 0)) rfl ?_
    exact m_ret1 rfl (Or.inl rfl) rfl K
  · intro a hi1 hi2 ih u hu
    rw [sum_step hi2] at hu
    refine m_run 3 (ps' := (9, [some (.inr (.inl 2)), some (.inl u), some (.inl a), none], [.inl n, .inl a], mW (n, T, h, t, x) M, 0, 0)) rfl ?_
    refine m_icmp rfl ⟨by omega, by omega⟩ ⟨by omega, by omega⟩ (fun (zc1 : n ≤ a) => absurd zc1 (by omega)) (fun (zc1 : ¬ n ≤ a) => ?_)
    refine m_run 2 (ps' := (14, [some (.inr (.inl 2)), some (.inl u), some (.inl a), some (.inl 0)], [], mW (n, T, h, t, x) M, 0, 0)) rfl ?_
    refine m_weak [some (.inr (.inl 2)), some (.inl u), some (.inl a), some (.inl 0)] ⟨rfl, ⟨rfl, ⟨rfl, ⟨rfl, trivial⟩⟩⟩⟩ ?_
    refine l_unlI (v := u + sumF (fun b => (if tb a b = fpS n a b then 0 else 1)) n.toNat 0) hR hi1 hi2 ?_ 0 (by omega) (by omega) u (by rw [z_sub])
    exact ih _ (by rw [← hu]; omega)
set_option maxHeartbeats 4000000 in
set_option maxRecDepth 100000 in
theorem k_unl {X : Nat × Nat × (Nat → Int32)} {n : Int} {T : Int → Int} {h : HS} {t : TS} {x : XS} {M : MS} {tb : Int → Int → Int} (hR : repC n T tb) : m_Run X 24 [.inr (.inl 2)] (mW (n, T, h, t, x) M) (m_V (unlS n tb) (mW (n, T, h, t, x) M)) := by
  have hn := hR.1
  have hl := okN_lo hn
  show m_Sem X 24 (0, [some (.inr (.inl 2)), none, none, none], [], mW (n, T, h, t, x) M, 0, 0) _
  refine m_run 4 (ps' := (4, [some (.inr (.inl 2)), some (.inl 0), some (.inl 0), none], [], mW (n, T, h, t, x) M, 0, 0)) rfl ?_
  refine m_weak [some (.inr (.inl 2)), some (.inl 0), some (.inl 0), none] ⟨rfl, ⟨rfl, ⟨rfl, trivial⟩⟩⟩ ?_
  exact l_unlO (v := unlS n tb) hR ⟨rfl, rfl⟩ 0 (by omega) (by omega) 0 (by rw [z_sub, Int.zero_add]; rfl)
/-- all places of the table hold small numbers, also those that are not in use -/
def okT (T : Int → Int) : Prop := ∀ j, 0 ≤ j → j < 81 → 0 ≤ T j ∧ T j < 9
theorem okT_up {T : Int → Int} (hT : okT T) {j v : Int} (h1 : 0 ≤ v) (h2 : v < 9) : okT (m_up T j v) := by
  intro i h3 h4
  unfold m_up
  split
  · exact ⟨h1, h2⟩
  · exact hT i h3 h4
def fill (n : Int) (F : Int → Int → Int) (T : Int → Int) (a b : Int) : Prop := ∀ a' b', 0 ≤ a' → 0 ≤ b' → b' < n → (a' < a ∨ (a' = a ∧ b' < b)) → T (9 * a' + b') = F a' b'
theorem fill_0 {n : Int} {F : Int → Int → Int} {T : Int → Int} : fill n F T 0 0 := fun a' b' h1 h2 h3 h4 => absurd h4 (by omega)
theorem fill_s {n : Int} {F : Int → Int → Int} {T : Int → Int} {a b v : Int} (h : fill n F T a b) (h1 : 0 ≤ b) (h2 : b < n) (h3 : n ≤ 9) (hv : v = F a b) : fill n F (m_up T (9 * a + b) v) a (b + 1) := by
  intro a' b' g1 g2 g3 g4
  by_cases he : 9 * a' + b' = 9 * a + b
  · rw [he, m_up_s, hv, show a' = a by omega, show b' = b by omega]
  · rw [m_up_n T v he]
    exact h a' b' g1 g2 g3 (by omega)
theorem fill_r {n : Int} {F : Int → Int → Int} {T : Int → Int} {a : Int} (h : fill n F T a n) : fill n F T (a + 1) 0 := fun a' b' g1 g2 g3 g4 => h a' b' g1 g2 g3 (by omega)
theorem fill_e {n : Int} {F : Int → Int → Int} {T : Int → Int} (h : fill n F T n 0) : ∀ a b, 0 ≤ a → a < n → 0 ≤ b → b < n → T (9 * a + b) = F a b := fun a b h1 h2 h3 h4 => h a b h1 h3 h4 (Or.inl h2)
set_option maxHeartbeats 4000000 in
set_option maxRecDepth 100000 in
theorem l_bfI {X : Nat × Nat × (Nat → Int32)} {n : Int} {h : HS} {t : TS} {x : XS} {M : MS} {a : Int} {Q : Option mPV → mPW → Prop} (hn : okN n) (ha : 0 ≤ a) (ha2 : a < n) (K : ∀ T : Int → Int, okT T → fill n (fpS n) T (a + 1) 0 → m_Sem X 21 (7, [some (.inr (.inl 2)), some (.inl n), some (.inl (a + 1)), none], [], mW (n, T, h, t, x) M, 0, 0) Q) : ∀ b : Int, 0 ≤ b → b ≤ n → ∀ (T : Int → Int) (hT : okT T) (hf : fill n (fpS n) T a b), m_Sem X 21 (14, [some (.inr (.inl 2)), some (.inl n), some (.inl a), some (.inl b)], [], mW (n, T, h, t, x) M, 0, 0) (Q) := by
  have hl := okN_lo hn
  refine m_down 0 n ?_ ?_
  · intro T hT hf
    show m_Sem X 21 (14, [some (.inr (.inl 2)), some (.inl n), some (.inl a), some (.inl n)], [], mW (n, T, h, t, x) M, 0, 0) _
    refine m_run 2 (ps' := (16, [some (.inr (.inl 2)), some (.inl n), some (.inl a), some (.inl n)], [.inl n, .inl n], mW (n, T, h, t, x) M, 0, 0)) rfl ?_
    refine m_icmp rfl ⟨by omega, by omega⟩ ⟨by omega, by omega⟩ (fun (zc1 : n ≤ n) => ?_) (fun (zc1 : ¬ n ≤ n) => absurd zc1 (not_not_intro (by omega)))
    refine m_run 2 (ps' := (7, [some (.inr (.inl 2)), some (.inl n), some (.inl (a + 1)), some (.inl n)], [], mW (n, T, h, t, x) M, 0, 0)) rfl ?_
    refine m_weak [some (.inr (.inl 2)), some (.inl n), some (.inl (a + 1)), none] ⟨rfl, ⟨rfl, ⟨rfl, trivial⟩⟩⟩ ?_
    exact K T hT (fill_r hf)
  · intro b hi1 hi2 ih T hT hf
    have hp := hT (9 * a + b) (by omega) (by omega)
    refine m_run 2 (ps' := (16, [some (.inr (.inl 2)), some (.inl n), some (.inl a), some (.inl b)], [.inl n, .inl b], mW (n, T, h, t, x) M, 0, 0)) rfl ?_
    refine m_icmp rfl ⟨by omega, by omega⟩ ⟨by omega, by omega⟩ (fun (zc1 : n ≤ b) => absurd zc1 (by omega)) (fun (zc1 : ¬ n ≤ b) => ?_)
    refine m_run 6 (ps' := (25, [some (.inr (.inl 2)), some (.inl n), some (.inl a), some (.inl b)], [.inl b, .inl a, .inl n, .inl b, .inl a, .inr (.inl 2)], mW (n, T, h, t, x) M, 0, 0)) rfl ?_
    refine m_callSF [.inl n, .inl a, .inl b] [.inl b, .inl a, .inr (.inl 2)] rfl rfl rfl (k_fp (a := a) (b := b) hn (by omega) (by omega) (by omega) (by omega)) ?_
    have zt1 := fpS_in (n := n) (a := a) (b := b) hn (by omega) (by omega) (by omega) (by omega)
    show m_Sem X 21 (28, [some (.inr (.inl 2)), some (.inl n), some (.inl a), some (.inl b)], [.inl (fpS n a b), .inl b, .inl a, .inr (.inl 2)], mW (n, T, h, t, x) M, 0, 0) _
    refine m_callVF [.inl a, .inl b, .inl (fpS n a b)] [] rfl rfl ⟨_, rfl, rfl⟩ rfl rfl (k_set (T := T) (a := a) (b := b) (r := (fpS n a b)) ⟨by omega, by omega⟩ ⟨by omega, by omega⟩ (by omega) (by omega) ⟨by omega, by omega⟩ ⟨by omega, by omega⟩) ?_
    show m_Sem X 21 (31, [some (.inr (.inl 2)), some (.inl n), some (.inl a), some (.inl b)], [.inl (if T (9 * a + b) = (fpS n a b) then 0 else 1)], mW (n, (m_up T (9 * a + b) (fpS n a b)), h, t, x) M, 0, 0) _
    refine m_run 3 (ps' := (14, [some (.inr (.inl 2)), some (.inl n), some (.inl a), some (.inl (b + 1))], [], mW (n, (m_up T (9 * a + b) (fpS n a b)), h, t, x) M, 0, 0)) rfl ?_
    refine m_weak [some (.inr (.inl 2)), some (.inl n), some (.inl a), some (.inl (b + 1))] ⟨rfl, ⟨rfl, ⟨rfl, ⟨rfl, trivial⟩⟩⟩⟩ ?_
    exact ih _ (okT_up hT (by omega) (by omega)) (fill_s hf hi1 hi2 (by omega) rfl)
set_option maxHeartbeats 4000000 in
set_option maxRecDepth 100000 in
theorem l_bfO {X : Nat × Nat × (Nat → Int32)} {n : Int} {h : HS} {t : TS} {x : XS} {M : MS} {Q : Option mPV → mPW → Prop} (hn : okN n) (K : ∀ T : Int → Int, okT T → fill n (fpS n) T n 0 → Q none (mW (n, T, h, t, x) M)) : ∀ a : Int, 0 ≤ a → a ≤ n → ∀ (T : Int → Int) (hT : okT T) (hf : fill n (fpS n) T a 0), m_Sem X 21 (7, [some (.inr (.inl 2)), some (.inl n), some (.inl a), none], [], mW (n, T, h, t, x) M, 0, 0) (Q) := by
  have hl := okN_lo hn
  refine m_down 0 n ?_ ?_
  · intro T hT hf
    show m_Sem X 21 (7, [some (.inr (.inl 2)), some (.inl n), some (.inl n), none], [], mW (n, T, h, t, x) M, 0, 0) _
    refine m_run 2 (ps' := (9, [some (.inr (.inl 2)), some (.inl n), some (.inl n), none], [.inl n, .inl n], mW (n, T, h, t, x) M, 0, 0)) rfl ?_
    refine m_icmp rfl ⟨by omega, by omega⟩ ⟨by omega, by omega⟩ (fun (zc1 : n ≤ n) => ?_) (fun (zc1 : ¬ n ≤ n) => absurd zc1 (not_not_intro (by omega)))
    exact m_ret0 rfl rfl rfl (K T hT hf)
  · intro a hi1 hi2 ih T hT hf
    refine m_run 2 (ps' := (9, [some (.inr (.inl 2)), some (.inl n), some (.inl a), none], [.inl n, .inl a], mW (n, T, h, t, x) M, 0, 0)) rfl ?_
    refine m_icmp rfl ⟨by omega, by omega⟩ ⟨by omega, by omega⟩ (fun (zc1 : n ≤ a) => absurd zc1 (by omega)) (fun (zc1 : ¬ n ≤ a) => ?_)
    refine m_run 2 (ps' := (14, [some (.inr (.inl 2)), some (.inl n), some (.inl a), some (.inl 0)], [], mW (n, T, h, t, x) M, 0, 0)) rfl ?_
    refine m_weak [some (.inr (.inl 2)), some (.inl n), some (.inl a), some (.inl 0)] ⟨rfl, ⟨rfl, ⟨rfl, ⟨rfl, trivial⟩⟩⟩⟩ ?_
    exact l_bfI hn hi1 hi2 ih 0 (by omega) (by omega) T hT hf
set_option maxHeartbeats 4000000 in
set_option maxRecDepth 100000 in
theorem k_bf {X : Nat × Nat × (Nat → Int32)} {n : Int} {h : HS} {t : TS} {x : XS} {M : MS} {n0 : Int} {T : Int → Int} (hn : okN n) (hT : okT T) : m_Run X 21 [.inr (.inl 2), .inl n] (mW (n0, T, h, t, x) M) (fun r w => r = none ∧ ∃ T2, w = mW (n, T2, h, t, x) M ∧ okT T2 ∧ ∀ a b, 0 ≤ a → a < n → 0 ≤ b → b < n → T2 (9 * a + b) = fpS n a b) := by
  have hl := okN_lo hn
  show m_Sem X 21 (0, [some (.inr (.inl 2)), some (.inl n), none, none], [], mW (n0, T, h, t, x) M, 0, 0) _
  refine m_run 5 (ps' := (7, [some (.inr (.inl 2)), some (.inl n), some (.inl 0), none], [], mW (n, T, h, t, x) M, 0, 0)) rfl ?_
  refine m_weak [some (.inr (.inl 2)), some (.inl n), some (.inl 0), none] ⟨rfl, ⟨rfl, ⟨rfl, trivial⟩⟩⟩ ?_
  exact l_bfO hn (fun T2 hT2 hf => ⟨rfl, T2, rfl, hT2, fill_e hf⟩) 0 (by omega) (by omega) T hT fill_0
def cubeS (a : Int) : Int := fpS 9 (fpS 9 a a) a
def twS (a b : Int) : Int := fpS 9 (bif sqS 9 b then a else cubeS a) b
/-- by columns -/
def fillT (F : Int → Int → Int) (tb : Int → Int → Int) (T : Int → Int) (b a : Int) : Prop := ∀ a' b', 0 ≤ a' → a' < 9 → 0 ≤ b' → b' < 9 → T (9 * a' + b') = if b' < b ∨ (b' = b ∧ a' < a) then F a' b' else tb a' b'
theorem fillT_s {F tb : Int → Int → Int} {T : Int → Int} {a b v : Int} (h : fillT F tb T b a) (h1 : 0 ≤ a) (h2 : a < 9) (h3 : 0 ≤ b) (h4 : b < 9) (hv : v = F a b) : fillT F tb (m_up T (9 * a + b) v) b (a + 1) := by
  intro a' b' g1 g2 g3 g4
  by_cases he : 9 * a' + b' = 9 * a + b
  · have e1 : a' = a := by omega
    have e2 : b' = b := by omega
    rw [he, m_up_s, hv, e1, e2, if_pos (by omega)]
  · rw [m_up_n T v he, h a' b' g1 g2 g3 g4]
    by_cases hc : b' < b ∨ (b' = b ∧ a' < a)
    · rw [if_pos hc, if_pos (by omega)]
    · rw [if_neg hc, if_neg (by omega)]
theorem fillT_r {F tb : Int → Int → Int} {T : Int → Int} {b : Int} (h : fillT F tb T b 9) : fillT F tb T (b + 1) 0 := by
  intro a' b' g1 g2 g3 g4
  rw [h a' b' g1 g2 g3 g4]
  by_cases hc : b' < b ∨ (b' = b ∧ a' < 9)
  · rw [if_pos hc, if_pos (by omega)]
  · rw [if_neg hc, if_neg (by omega)]
theorem cubeS_in {a : Int} (h1 : 0 ≤ a) (h2 : a < 9) : 0 ≤ cubeS a ∧ cubeS a < 9 := by
  have hn : okN 9 := by unfold okN; omega
  have h3 := fpS_in (n := 9) (a := a) (b := a) hn h1 h2 h1 h2
  exact fpS_in (n := 9) hn h3.1 h3.2 h1 h2
def twR (tb : Int → Int → Int) (b : Int) : Int := sumF (fun a => if tb a b = twS a b then 0 else 1) 9 0
def twC (tb : Int → Int → Int) : Int := sumF (twR tb) 9 0
set_option maxHeartbeats 4000000 in
set_option maxRecDepth 100000 in
theorem l_btI {X : Nat × Nat × (Nat → Int32)} {h : HS} {t : TS} {x : XS} {M : MS} {tb : Int → Int → Int} {b : Int} {Q : Option mPV → mPW → Prop} {v : Int} (hb : 0 ≤ b) (hb2 : b < 9) (K : ∀ T : Int → Int, okT T → fillT twS tb T (b + 1) 0 → m_Sem X 22 (4, [some (.inr (.inl 2)), some (.inl v), some (.inl (b + 1)), none, none, none], [], mW (9, T, h, t, x) M, 0, 0) Q) : ∀ a : Int, 0 ≤ a → a ≤ 9 → ∀ (T : Int → Int) (u : Int) (hT : okT T) (hf : fillT twS tb T b a) (hu : u + sumF (fun a => if tb a b = twS a b then 0 else 1) (9 - a).toNat a = v), m_Sem X 22 (21, [some (.inr (.inl 2)), some (.inl u), some (.inl b), some (.inl (bI (sqS 9 b))), some (.inl a), none], [], mW (9, T, h, t, x) M, 0, 0) (Q) := by
  have hn : okN 9 := by unfold okN; omega
  refine m_down 0 9 ?_ ?_
  · intro T u hT hf hu
    rw [sum_end] at hu
    have hu : u = v := by omega
    subst hu
    show m_Sem X 22 (21, [some (.inr (.inl 2)), some (.inl u), some (.inl b), some (.inl (bI (sqS 9 b))), some (.inl 9), none], [], mW (9, T, h, t, x) M, 0, 0) _
    refine m_run 3 (ps' := (27, [some (.inr (.inl 2)), some (.inl u), some (.inl b), some (.inl (bI (sqS 9 b))), some (.inl 9), none], [.inl 9, .inl 9], mW (9, T, h, t, x) M, 0, 0)) rfl ?_
    refine m_icmp rfl ⟨by omega, by omega⟩ ⟨by omega, by omega⟩ (fun (zc1 : 9 ≤ 9) => ?_) (fun (zc1 : ¬ 9 ≤ 9) => absurd zc1 (not_not_intro (by omega)))
    refine m_run 2 (ps' := (4, [some (.inr (.inl 2)), some (.inl u), some (.inl (b + 1)), some (.inl (bI (sqS 9 b))), some (.inl 9), none], [], mW (9, T, h, t, x) M, 0, 0)) rfl ?_
    refine m_weak [some (.inr (.inl 2)), some (.inl u), some (.inl (b + 1)), none, none, none] ⟨rfl, ⟨rfl, ⟨rfl, trivial⟩⟩⟩ ?_
    exact K T hT (fillT_r hf)
  · intro a hi1 hi2 ih T u hT hf hu
    rw [sum_step hi2] at hu
    have hp := hT (9 * a + b) (by omega) (by omega)
    have hpe := hf a b hi1 hi2 hb hb2
    rw [if_neg (by omega)] at hpe
    have zt0 := cubeS_in hi1 hi2
    refine m_run 3 (ps' := (27, [some (.inr (.inl 2)), some (.inl u), some (.inl b), some (.inl (bI (sqS 9 b))), some (.inl a), none], [.inl 9, .inl a], mW (9, T, h, t, x) M, 0, 0)) rfl ?_
    refine m_icmp rfl ⟨by omega, by omega⟩ ⟨by omega, by omega⟩ (fun (zc1 : 9 ≤ a) => absurd zc1 (by omega)) (fun (zc1 : ¬ 9 ≤ a) => ?_)
    refine m_run 6 (ps' := (42, [some (.inr (.inl 2)), some (.inl u), some (.inl b), some (.inl (bI (sqS 9 b))), some (.inl a), none], [.inl a, .inl a, .inl 9, .inl 9], mW (9, T, h, t, x) M, 0, 0)) rfl ?_
    refine m_callSF [.inl 9, .inl a, .inl a] [.inl 9] rfl rfl rfl (k_fp (a := a) (b := a) hn (by omega) (by omega) (by omega) (by omega)) ?_
    have zt1 := fpS_in (n := 9) (a := a) (b := a) hn (by omega) (by omega) (by omega) (by omega)
    show m_Sem X 22 (45, [some (.inr (.inl 2)), some (.inl u), some (.inl b), some (.inl (bI (sqS 9 b))), some (.inl a), none], [.inl (fpS 9 a a), .inl 9], mW (9, T, h, t, x) M, 0, 0) _
    refine m_run 1 (ps' := (47, [some (.inr (.inl 2)), some (.inl u), some (.inl b), some (.inl (bI (sqS 9 b))), some (.inl a), none], [.inl a, .inl (fpS 9 a a), .inl 9], mW (9, T, h, t, x) M, 0, 0)) rfl ?_
    refine m_callSF [.inl 9, .inl (fpS 9 a a), .inl a] [] rfl rfl rfl (k_fp (a := (fpS 9 a a)) (b := a) hn (by omega) (by omega) (by omega) (by omega)) ?_
    have zt2 := fpS_in (n := 9) (a := (fpS 9 a a)) (b := a) hn (by omega) (by omega) (by omega) (by omega)
    show m_Sem X 22 (50, [some (.inr (.inl 2)), some (.inl u), some (.inl b), some (.inl (bI (sqS 9 b))), some (.inl a), none], [.inl (fpS 9 (fpS 9 a a) a)], mW (9, T, h, t, x) M, 0, 0) _
    refine m_run 8 (ps' := (62, [some (.inr (.inl 2)), some (.inl u), some (.inl b), some (.inl (bI (sqS 9 b))), some (.inl a), some (.inl (fpS 9 (fpS 9 a a) a))], [.inl (bI (sqS 9 b)), .inl 9, .inl b, .inl a, .inr (.inl 2), .inl u], mW (9, T, h, t, x) M, 0, 0)) rfl ?_
    refine m_if rfl (bI_R (sqS 9 b)) (fun (zc2 : (bI (sqS 9 b)) = 0) => ?_) (fun (zc2 : ¬ (bI (sqS 9 b)) = 0) => ?_)
    · replace zc2 : (sqS 9 b) = false := bI_e0.mp zc2
      refine m_run 2 (ps' := (73, [some (.inr (.inl 2)), some (.inl u), some (.inl b), some (.inl (bI (sqS 9 b))), some (.inl a), some (.inl (fpS 9 (fpS 9 a a) a))], [.inl b, .inl (fpS 9 (fpS 9 a a) a), .inl 9, .inl b, .inl a, .inr (.inl 2), .inl u], mW (9, T, h, t, x) M, 0, 0)) rfl ?_
      refine m_callSF [.inl 9, .inl (fpS 9 (fpS 9 a a) a), .inl b] [.inl b, .inl a, .inr (.inl 2), .inl u] rfl rfl rfl (k_fp (a := (fpS 9 (fpS 9 a a) a)) (b := b) hn (by omega) (by omega) (by omega) (by omega)) ?_
      have zt3 := fpS_in (n := 9) (a := (fpS 9 (fpS 9 a a) a)) (b := b) hn (by omega) (by omega) (by omega) (by omega)
      show m_Sem X 22 (76, [some (.inr (.inl 2)), some (.inl u), some (.inl b), some (.inl (bI (sqS 9 b))), some (.inl a), some (.inl (fpS 9 (fpS 9 a a) a))], [.inl (fpS 9 (fpS 9 (fpS 9 a a) a) b), .inl b, .inl a, .inr (.inl 2), .inl u], mW (9, T, h, t, x) M, 0, 0) _
      refine m_callVF [.inl a, .inl b, .inl (fpS 9 (fpS 9 (fpS 9 a a) a) b)] [.inl u] rfl rfl ⟨_, rfl, rfl⟩ rfl rfl (k_set (T := T) (a := a) (b := b) (r := (fpS 9 (fpS 9 (fpS 9 a a) a) b)) ⟨by omega, by omega⟩ ⟨by omega, by omega⟩ (by omega) (by omega) ⟨by omega, by omega⟩ ⟨by omega, by omega⟩) ?_
      show m_Sem X 22 (79, [some (.inr (.inl 2)), some (.inl u), some (.inl b), some (.inl (bI (sqS 9 b))), some (.inl a), some (.inl (fpS 9 (fpS 9 a a) a))], [.inl (if T (9 * a + b) = (fpS 9 (fpS 9 (fpS 9 a a) a) b) then 0 else 1), .inl u], mW (9, (m_up T (9 * a + b) (fpS 9 (fpS 9 (fpS 9 a a) a) b)), h, t, x) M, 0, 0) _
      refine m_run 4 (ps' := (21, [some (.inr (.inl 2)), some (.inl (u + (if T (9 * a + b) = (fpS 9 (fpS 9 (fpS 9 a a) a) b) then 0 else 1))), some (.inl b), some (.inl (bI (sqS 9 b))), some (.inl (a + 1)), some (.inl (fpS 9 (fpS 9 a a) a))], [], mW (9, (m_up T (9 * a + b) (fpS 9 (fpS 9 (fpS 9 a a) a) b)), h, t, x) M, 0, 0)) rfl ?_
      refine m_weak [some (.inr (.inl 2)), some (.inl (u + (if T (9 * a + b) = (fpS 9 (fpS 9 (fpS 9 a a) a) b) then 0 else 1))), some (.inl b), some (.inl (bI (sqS 9 b))), some (.inl (a + 1)), none] ⟨rfl, ⟨rfl, ⟨rfl, ⟨rfl, ⟨rfl, trivial⟩⟩⟩⟩⟩ ?_
      have htw : twS a b = fpS 9 (bif sqS 9 b then a else cubeS a) b := rfl
      rw [zc2] at htw
      simp only [cond_true, cond_false, cubeS] at htw
      refine ih _ _ (okT_up hT (by omega) (by omega)) (fillT_s hf hi1 hi2 hb hb2 htw.symm) ?_
      rw [← hu, hpe, htw]
      omega
    · replace zc2 : (sqS 9 b) = true := bI_n0.mp zc2
      refine m_run 3 (ps' := (73, [some (.inr (.inl 2)), some (.inl u), some (.inl b), some (.inl (bI (sqS 9 b))), some (.inl a), some (.inl (fpS 9 (fpS 9 a a) a))], [.inl b, .inl a, .inl 9, .inl b, .inl a, .inr (.inl 2), .inl u], mW (9, T, h, t, x) M, 0, 0)) rfl ?_
      refine m_callSF [.inl 9, .inl a, .inl b] [.inl b, .inl a, .inr (.inl 2), .inl u] rfl rfl rfl (k_fp (a := a) (b := b) hn (by omega) (by omega) (by omega) (by omega)) ?_
      have zt3 := fpS_in (n := 9) (a := a) (b := b) hn (by omega) (by omega) (by omega) (by omega)
      show m_Sem X 22 (76, [some (.inr (.inl 2)), some (.inl u), some (.inl b), some (.inl (bI (sqS 9 b))), some (.inl a), some (.inl (fpS 9 (fpS 9 a a) a))], [.inl (fpS 9 a b), .inl b, .inl a, .inr (.inl 2), .inl u], mW (9, T, h, t, x) M, 0, 0) _
      refine m_callVF [.inl a, .inl b, .inl (fpS 9 a b)] [.inl u] rfl rfl ⟨_, rfl, rfl⟩ rfl rfl (k_set (T := T) (a := a) (b := b) (r := (fpS 9 a b)) ⟨by omega, by omega⟩ ⟨by omega, by omega⟩ (by omega) (by omega) ⟨by omega, by omega⟩ ⟨by omega, by omega⟩) ?_
      show m_Sem X 22 (79, [some (.inr (.inl 2)), some (.inl u), some (.inl b), some (.inl (bI (sqS 9 b))), some (.inl a), some (.inl (fpS 9 (fpS 9 a a) a))], [.inl (if T (9 * a + b) = (fpS 9 a b) then 0 else 1), .inl u], mW (9, (m_up T (9 * a + b) (fpS 9 a b)), h, t, x) M, 0, 0) _
      refine m_run 4 (ps' := (21, [some (.inr (.inl 2)), some (.inl (u + (if T (9 * a + b) = (fpS 9 a b) then 0 else 1))), some (.inl b), some (.inl (bI (sqS 9 b))), some (.inl (a + 1)), some (.inl (fpS 9 (fpS 9 a a) a))], [], mW (9, (m_up T (9 * a + b) (fpS 9 a b)), h, t, x) M, 0, 0)) rfl ?_
      refine m_weak [some (.inr (.inl 2)), some (.inl (u + (if T (9 * a + b) = (fpS 9 a b) then 0 else 1))), some (.inl b), some (.inl (bI (sqS 9 b))), some (.inl (a + 1)), none] ⟨rfl, ⟨rfl, ⟨rfl, ⟨rfl, ⟨rfl, trivial⟩⟩⟩⟩⟩ ?_
      have htw : twS a b = fpS 9 (bif sqS 9 b then a else cubeS a) b := rfl
      rw [zc2] at htw
      simp only [cond_true, cond_false, cubeS] at htw
      refine ih _ _ (okT_up hT (by omega) (by omega)) (fillT_s hf hi1 hi2 hb hb2 htw.symm) ?_
      rw [← hu, hpe, htw]
      omega
set_option maxHeartbeats 4000000 in
set_option maxRecDepth 100000 in
theorem l_btO {X : Nat × Nat × (Nat → Int32)} {h : HS} {t : TS} {x : XS} {M : MS} {tb : Int → Int → Int} {Q : Option mPV → mPW → Prop} {v : Int} (K : ∀ T : Int → Int, okT T → fillT twS tb T 9 0 → Q (some (.inl v)) (mW (9, T, h, t, x) M)) : ∀ b : Int, 0 ≤ b → b ≤ 9 → ∀ (T : Int → Int) (u : Int) (hT : okT T) (hf : fillT twS tb T b 0) (hu : u + sumF (twR tb) (9 - b).toNat b = v), m_Sem X 22 (4, [some (.inr (.inl 2)), some (.inl u), some (.inl b), none, none, none], [], mW (9, T, h, t, x) M, 0, 0) (Q) := by
  have hn : okN 9 := by unfold okN; omega
  refine m_down 0 9 ?_ ?_
  · intro T u hT hf hu
    rw [sum_end] at hu
    have hu : u = v := by omega
    subst hu
    show m_Sem X 22 (4, [some (.inr (.inl 2)), some (.inl u), some (.inl 9), none, none, none], [], mW (9, T, h, t, x) M, 0, 0) _
    refine m_run 3 (ps' := (9, [some (.inr (.inl 2)), some (.inl u), some (.inl 9), none, none, none], [.inl 9, .inl 9], mW (9, T, h, t, x) M, 0, 0)) rfl ?_
    refine m_icmp rfl ⟨by omega, by omega⟩ ⟨by omega, by omega⟩ (fun (zc1 : 9 ≤ 9) => ?_) (fun (zc1 : ¬ 9 ≤ 9) => absurd zc1 (not_not_intro (by omega)))
    refine m_run 1 (ps' := (94, [some (.inr (.inl 2)), some (.inl u), some (.inl 9), none, none, none], [.inl u], mW (9, T, h, t, x) M, 0, 0)) rfl ?_
    exact m_ret1 rfl (Or.inl rfl) rfl (K T hT hf)
  · intro b hi1 hi2 ih T u hT hf hu
    rw [sum_step hi2] at hu
    refine m_run 3 (ps' := (9, [some (.inr (.inl 2)), some (.inl u), some (.inl b), none, none, none], [.inl 9, .inl b], mW (9, T, h, t, x) M, 0, 0)) rfl ?_
    refine m_icmp rfl ⟨by omega, by omega⟩ ⟨by omega, by omega⟩ (fun (zc1 : 9 ≤ b) => absurd zc1 (by omega)) (fun (zc1 : ¬ 9 ≤ b) => ?_)
    refine m_run 2 (ps' := (14, [some (.inr (.inl 2)), some (.inl u), some (.inl b), none, none, none], [.inl b, .inr (.inl 2)], mW (9, T, h, t, x) M, 0, 0)) rfl ?_
    refine m_callVF [.inl b] [] rfl rfl ⟨_, rfl, rfl⟩ rfl rfl (k_sq (b := b) hn ⟨by omega, by omega⟩) ?_
    show m_Sem X 22 (17, [some (.inr (.inl 2)), some (.inl u), some (.inl b), none, none, none], [.inl (bI (sqS 9 b))], mW (9, T, h, t, x) M, 0, 0) _
    refine m_run 3 (ps' := (21, [some (.inr (.inl 2)), some (.inl u), some (.inl b), some (.inl (bI (sqS 9 b))), some (.inl 0), none], [], mW (9, T, h, t, x) M, 0, 0)) rfl ?_
    refine m_weak [some (.inr (.inl 2)), some (.inl u), some (.inl b), some (.inl (bI (sqS 9 b))), some (.inl 0), none] ⟨rfl, ⟨rfl, ⟨rfl, ⟨rfl, ⟨rfl, trivial⟩⟩⟩⟩⟩ ?_
    exact l_btI (v := u + twR tb b) hi1 hi2 (fun T2 hT2 hf2 => ih T2 _ hT2 hf2 (by rw [← hu]; omega)) 0 (by omega) (by omega) T u hT hf rfl
set_option maxHeartbeats 4000000 in
set_option maxRecDepth 100000 in
theorem k_bt {X : Nat × Nat × (Nat → Int32)} {h : HS} {t : TS} {x : XS} {M : MS} {tb : Int → Int → Int} {T : Int → Int} (hR : repC 9 T tb) (hT : okT T) : m_Run X 22 [.inr (.inl 2)] (mW (9, T, h, t, x) M) (fun r w => r = some (.inl (twC tb)) ∧ ∃ T2, w = mW (9, T2, h, t, x) M ∧ okT T2 ∧ ∀ a b, 0 ≤ a → a < 9 → 0 ≤ b → b < 9 → T2 (9 * a + b) = twS a b) := by
  show m_Sem X 22 (0, [some (.inr (.inl 2)), none, none, none, none, none], [], mW (9, T, h, t, x) M, 0, 0) _
  refine m_run 4 (ps' := (4, [some (.inr (.inl 2)), some (.inl 0), some (.inl 0), none, none, none], [], mW (9, T, h, t, x) M, 0, 0)) rfl ?_
  refine m_weak [some (.inr (.inl 2)), some (.inl 0), some (.inl 0), none, none, none] ⟨rfl, ⟨rfl, ⟨rfl, trivial⟩⟩⟩ ?_
  have g0 : fillT twS tb T 0 0 := fun a b h1 h2 h3 h4 => by
    rw [if_neg (by omega)]; exact (hR.2 a b h1 h2 h3 h4).1
  exact l_btO (v := twC tb) (fun T2 hT2 hf => ⟨rfl, T2, rfl, hT2, fun a b h1 h2 h3 h4 => by rw [hf a b h1 h2 h3 h4, if_pos (by omega)]⟩) 0 (by omega) (by omega) T 0 hT g0 (by rw [Int.zero_add]; rfl)
def exR (tb : Int → Int → Int) (a : Int) : Int := sumF (fun b => if tb a b = tb b a then 0 else 2) a.toNat 0
def exC (n : Int) (tb : Int → Int → Int) : Int := sumF (exR tb) n.toNat 0
/-- rows below a are exchanged, of row a those below b -/
def fillX (n : Int) (tb : Int → Int → Int) (T : Int → Int) (a b : Int) : Prop := ∀ a' b', 0 ≤ a' → a' < n → 0 ≤ b' → b' < n → T (9 * a' + b') = if (a' < a ∧ b' < a) ∨ (a' = a ∧ b' < b) ∨ (b' = a ∧ a' < b) then tb b' a' else tb a' b'
theorem fillX_s {n : Int} {tb : Int → Int → Int} {T : Int → Int} {a b : Int} (h : fillX n tb T a b) (hn : n ≤ 9) (h1 : 0 ≤ b) (h2 : b < a) (h3 : a < n) : fillX n tb (m_up (m_up T (9 * a + b) (tb b a)) (9 * b + a) (tb a b)) a (b + 1) := by
  intro a' b' g1 g2 g3 g4
  by_cases he : 9 * a' + b' = 9 * b + a
  · have e1 : a' = b := by omega
    have e2 : b' = a := by omega
    rw [he, m_up_s, e1, e2, if_pos (by omega)]
  · rw [m_up_n _ _ he]
    by_cases he2 : 9 * a' + b' = 9 * a + b
    · have e1 : a' = a := by omega
      have e2 : b' = b := by omega
      rw [he2, m_up_s, e1, e2, if_pos (by omega)]
    · rw [m_up_n _ _ he2, h a' b' g1 g2 g3 g4]
      by_cases hc : (a' < a ∧ b' < a) ∨ (a' = a ∧ b' < b) ∨ (b' = a ∧ a' < b)
      · rw [if_pos hc, if_pos (by omega)]
      · rw [if_neg hc, if_neg (by omega)]
theorem fillX_r {n : Int} {tb : Int → Int → Int} {T : Int → Int} {a : Int} (h : fillX n tb T a a) : fillX n tb T (a + 1) 0 := by
  intro a' b' g1 g2 g3 g4
  rw [h a' b' g1 g2 g3 g4]
  by_cases hd : a' = a ∧ b' = a
  · rw [hd.1, hd.2]; simp
  · by_cases hc : (a' < a ∧ b' < a) ∨ (a' = a ∧ b' < a) ∨ (b' = a ∧ a' < a)
    · rw [if_pos hc, if_pos (by omega)]
    · rw [if_neg hc, if_neg (by omega)]
theorem m_up_same {T : Int → Int} {j k v : Int} (h : ¬ k = j) : m_up T j v k = T k := m_up_n T v h
set_option maxHeartbeats 4000000 in
set_option maxRecDepth 100000 in
theorem k_raw {X : Nat × Nat × (Nat → Int32)} {n : Int} {T : Int → Int} {h : HS} {t : TS} {x : XS} {M : MS} {a b : Int} (h1 : 0 ≤ 9 * a + b) (h2 : 9 * a + b < 81) (h3 : m_R a := by exact ⟨by omega, by omega⟩) : m_Run X 17 [.inr (.inl 2), .inl a, .inl b] (mW (n, T, h, t, x) M) (m_V (T (9 * a + b)) (mW (n, T, h, t, x) M)) := by
  show m_Sem X 17 (0, [some (.inr (.inl 2)), some (.inl a), some (.inl b), none], [], mW (n, T, h, t, x) M, 0, 0) _
  refine m_run 7 (ps' := (8, [some (.inr (.inl 2)), some (.inl a), some (.inl b), some (.inl ((9 * a) + b))], [.inl ((9 * a) + b)], mW (n, T, h, t, x) M, 0, 0)) rfl ?_
  refine m_if rfl ⟨by omega, by omega⟩ (fun (zc1 : ((9 * a) + b) < 0) => absurd zc1 (by omega)) (fun (zc1 : ¬ ((9 * a) + b) < 0) => ?_)
  refine m_run 4 (ps' := (17, [some (.inr (.inl 2)), some (.inl a), some (.inl b), some (.inl ((9 * a) + b))], [.inl 81, .inl ((9 * a) + b)], mW (n, T, h, t, x) M, 0, 0)) rfl ?_
  refine m_icmp rfl ⟨by omega, by omega⟩ ⟨by omega, by omega⟩ (fun (zc2 : 81 ≤ ((9 * a) + b)) => absurd zc2 (by omega)) (fun (zc2 : ¬ 81 ≤ ((9 * a) + b)) => ?_)
  refine m_run 3 (ps' := (25, [some (.inr (.inl 2)), some (.inl a), some (.inl b), some (.inl ((9 * a) + b))], [.inl ((9 * a) + b), .inr (.inl 3)], mW (n, T, h, t, x) M, 0, 0)) rfl ?_
  refine m_iald rfl rfl (by omega) (by omega) (by decide) ?_
  refine m_run 1 (ps' := (30, [some (.inr (.inl 2)), some (.inl a), some (.inl b), some (.inl ((9 * a) + b))], [.inl (T ((9 * a) + b))], mW (n, T, h, t, x) M, 0, 0)) rfl ?_
  exact m_ret1 rfl (Or.inl rfl) rfl (m_Vi rfl)
set_option maxHeartbeats 4000000 in
set_option maxRecDepth 100000 in
theorem l_csI {X : Nat × Nat × (Nat → Int32)} {n : Int} {h : HS} {t : TS} {x : XS} {M : MS} {tb : Int → Int → Int} {a : Int} {Q : Option mPV → mPW → Prop} {v : Int} (hn : okN n) (htb : ∀ a b, 0 ≤ a → a < n → 0 ≤ b → b < n → 0 ≤ tb a b ∧ tb a b < n) (ha : 0 ≤ a) (ha2 : a < n) (K : ∀ T : Int → Int, okT T → fillX n tb T (a + 1) 0 → m_Sem X 23 (4, [some (.inr (.inl 2)), some (.inl v), some (.inl (a + 1)), none, none], [], mW (n, T, h, t, x) M, 0, 0) Q) : ∀ b : Int, 0 ≤ b → b ≤ a → ∀ (T : Int → Int) (u : Int) (hT : okT T) (hf : fillX n tb T a b) (hu : u + sumF (fun b => if tb a b = tb b a then 0 else 2) (a - b).toNat b = v), m_Sem X 23 (14, [some (.inr (.inl 2)), some (.inl u), some (.inl a), some (.inl b), none], [], mW (n, T, h, t, x) M, 0, 0) (Q) := by
  have hl := okN_lo hn
  refine m_down 0 a ?_ ?_
  · intro T u hT hf hu
    rw [sum_end] at hu
    have hu : u = v := by omega
    subst hu
    show m_Sem X 23 (14, [some (.inr (.inl 2)), some (.inl u), some (.inl a), some (.inl a), none], [], mW (n, T, h, t, x) M, 0, 0) _
    refine m_run 2 (ps' := (16, [some (.inr (.inl 2)), some (.inl u), some (.inl a), some (.inl a), none], [.inl a, .inl a], mW (n, T, h, t, x) M, 0, 0)) rfl ?_
    refine m_icmp rfl ⟨by omega, by omega⟩ ⟨by omega, by omega⟩ (fun (zc1 : a ≤ a) => ?_) (fun (zc1 : ¬ a ≤ a) => absurd zc1 (not_not_intro (by omega)))
    refine m_run 2 (ps' := (4, [some (.inr (.inl 2)), some (.inl u), some (.inl (a + 1)), some (.inl a), none], [], mW (n, T, h, t, x) M, 0, 0)) rfl ?_
    refine m_weak [some (.inr (.inl 2)), some (.inl u), some (.inl (a + 1)), none, none] ⟨rfl, ⟨rfl, ⟨rfl, trivial⟩⟩⟩ ?_
    exact K T hT (fillX_r hf)
  · intro b hi1 hi2 ih T u hT hf hu
    rw [sum_step hi2] at hu
    have hp := hT (9 * a + b) (by omega) (by omega)
    have hq := hT (9 * b + a) (by omega) (by omega)
    have e1 : T (9 * a + b) = tb a b := by rw [hf a b ha ha2 hi1 (by omega), if_neg (by omega)]
    have e2 : T (9 * b + a) = tb b a := by rw [hf b a hi1 (by omega) ha ha2, if_neg (by omega)]
    have e3 : m_up T (9 * a + b) (T (9 * b + a)) (9 * b + a) = T (9 * b + a) := m_up_n T _ (by omega)
    refine m_run 2 (ps' := (16, [some (.inr (.inl 2)), some (.inl u), some (.inl a), some (.inl b), none], [.inl a, .inl b], mW (n, T, h, t, x) M, 0, 0)) rfl ?_
    refine m_icmp rfl ⟨by omega, by omega⟩ ⟨by omega, by omega⟩ (fun (zc1 : a ≤ b) => absurd zc1 (by omega)) (fun (zc1 : ¬ a ≤ b) => ?_)
    refine m_run 3 (ps' := (22, [some (.inr (.inl 2)), some (.inl u), some (.inl a), some (.inl b), none], [.inl b, .inl a, .inr (.inl 2)], mW (n, T, h, t, x) M, 0, 0)) rfl ?_
    refine m_callVF [.inl a, .inl b] [] rfl rfl ⟨_, rfl, rfl⟩ rfl rfl (k_raw (T := T) (a := a) (b := b) (by omega) (by omega)) ?_
    show m_Sem X 23 (25, [some (.inr (.inl 2)), some (.inl u), some (.inl a), some (.inl b), none], [.inl (T (9 * a + b))], mW (n, T, h, t, x) M, 0, 0) _
    refine m_run 8 (ps' := (34, [some (.inr (.inl 2)), some (.inl u), some (.inl a), some (.inl b), some (.inl (T (9 * a + b)))], [.inl a, .inl b, .inr (.inl 2), .inl b, .inl a, .inr (.inl 2), .inl u], mW (n, T, h, t, x) M, 0, 0)) rfl ?_
    refine m_callVF [.inl b, .inl a] [.inl b, .inl a, .inr (.inl 2), .inl u] rfl rfl ⟨_, rfl, rfl⟩ rfl rfl (k_raw (T := T) (a := b) (b := a) (by omega) (by omega)) ?_
    show m_Sem X 23 (37, [some (.inr (.inl 2)), some (.inl u), some (.inl a), some (.inl b), some (.inl (T (9 * a + b)))], [.inl (T (9 * b + a)), .inl b, .inl a, .inr (.inl 2), .inl u], mW (n, T, h, t, x) M, 0, 0) _
    refine m_callVF [.inl a, .inl b, .inl (T (9 * b + a))] [.inl u] rfl rfl ⟨_, rfl, rfl⟩ rfl rfl (k_set (T := T) (a := a) (b := b) (r := (T (9 * b + a))) ⟨by omega, by omega⟩ ⟨by omega, by omega⟩ (by omega) (by omega) ⟨by omega, by omega⟩ ⟨by omega, by omega⟩) ?_
    show m_Sem X 23 (40, [some (.inr (.inl 2)), some (.inl u), some (.inl a), some (.inl b), some (.inl (T (9 * a + b)))], [.inl (if T (9 * a + b) = (T (9 * b + a)) then 0 else 1), .inl u], mW (n, (m_up T (9 * a + b) (T (9 * b + a))), h, t, x) M, 0, 0) _
    refine m_run 7 (ps' := (48, [some (.inr (.inl 2)), some (.inl (u + (if T (9 * a + b) = (T (9 * b + a)) then 0 else 1))), some (.inl a), some (.inl b), some (.inl (T (9 * a + b)))], [.inl (T (9 * a + b)), .inl a, .inl b, .inr (.inl 2), .inl (u + (if T (9 * a + b) = (T (9 * b + a)) then 0 else 1))], mW (n, (m_up T (9 * a + b) (T (9 * b + a))), h, t, x) M, 0, 0)) rfl ?_
    refine m_callVF [.inl b, .inl a, .inl (T (9 * a + b))] [.inl (u + (if T (9 * a + b) = (T (9 * b + a)) then 0 else 1))] rfl rfl ⟨_, rfl, rfl⟩ rfl rfl (k_set (T := (m_up T (9 * a + b) (T (9 * b + a)))) (a := b) (b := a) (r := (T (9 * a + b))) ⟨by omega, by omega⟩ ⟨by omega, by omega⟩ (by omega) (by omega) ⟨by omega, by omega⟩ ⟨by omega, by omega⟩) ?_
    show m_Sem X 23 (51, [some (.inr (.inl 2)), some (.inl (u + (if T (9 * a + b) = (T (9 * b + a)) then 0 else 1))), some (.inl a), some (.inl b), some (.inl (T (9 * a + b)))], [.inl (if (m_up T (9 * a + b) (T (9 * b + a))) (9 * b + a) = (T (9 * a + b)) then 0 else 1), .inl (u + (if T (9 * a + b) = (T (9 * b + a)) then 0 else 1))], mW (n, (m_up (m_up T (9 * a + b) (T (9 * b + a))) (9 * b + a) (T (9 * a + b))), h, t, x) M, 0, 0) _
    refine m_run 4 (ps' := (14, [some (.inr (.inl 2)), some (.inl ((u + (if T (9 * a + b) = (T (9 * b + a)) then 0 else 1)) + (if (m_up T (9 * a + b) (T (9 * b + a))) (9 * b + a) = (T (9 * a + b)) then 0 else 1))), some (.inl a), some (.inl (b + 1)), some (.inl (T (9 * a + b)))], [], mW (n, (m_up (m_up T (9 * a + b) (T (9 * b + a))) (9 * b + a) (T (9 * a + b))), h, t, x) M, 0, 0)) rfl ?_
    refine m_weak [some (.inr (.inl 2)), some (.inl ((u + (if T (9 * a + b) = (T (9 * b + a)) then 0 else 1)) + (if (m_up T (9 * a + b) (T (9 * b + a))) (9 * b + a) = (T (9 * a + b)) then 0 else 1))), some (.inl a), some (.inl (b + 1)), none] ⟨rfl, ⟨rfl, ⟨rfl, ⟨rfl, trivial⟩⟩⟩⟩ ?_
    rw [e3, e1, e2]
    refine ih _ _ (okT_up (okT_up hT (by omega) (by omega)) (by omega) (by omega)) (fillX_s hf (by omega) hi1 hi2 ha2) ?_
    rw [← hu]
    by_cases hc : tb a b = tb b a
    · rw [if_pos hc, if_pos hc.symm]; omega
    · rw [if_neg hc, if_neg (fun h9 => hc h9.symm)]; omega
set_option maxHeartbeats 4000000 in
set_option maxRecDepth 100000 in
theorem l_csO {X : Nat × Nat × (Nat → Int32)} {n : Int} {h : HS} {t : TS} {x : XS} {M : MS} {tb : Int → Int → Int} {Q : Option mPV → mPW → Prop} {v : Int} (hn : okN n) (htb : ∀ a b, 0 ≤ a → a < n → 0 ≤ b → b < n → 0 ≤ tb a b ∧ tb a b < n) (K : ∀ T : Int → Int, okT T → fillX n tb T n 0 → Q (some (.inl v)) (mW (n, T, h, t, x) M)) : ∀ a : Int, 0 ≤ a → a ≤ n → ∀ (T : Int → Int) (u : Int) (hT : okT T) (hf : fillX n tb T a 0) (hu : u + sumF (exR tb) (n - a).toNat a = v), m_Sem X 23 (4, [some (.inr (.inl 2)), some (.inl u), some (.inl a), none, none], [], mW (n, T, h, t, x) M, 0, 0) (Q) := by
  have hl := okN_lo hn
  refine m_down 0 n ?_ ?_
  · intro T u hT hf hu
    rw [sum_end] at hu
    have hu : u = v := by omega
    subst hu
    show m_Sem X 23 (4, [some (.inr (.inl 2)), some (.inl u), some (.inl n), none, none], [], mW (n, T, h, t, x) M, 0, 0) _
    refine m_run 3 (ps' := (9, [some (.inr (.inl 2)), some (.inl u), some (.inl n), none, none], [.inl n, .inl n], mW (n, T, h, t, x) M, 0, 0)) rfl ?_
    refine m_icmp rfl ⟨by omega, by omega⟩ ⟨by omega, by omega⟩ (fun (zc1 : n ≤ n) => ?_) (fun (zc1 : ¬ n ≤ n) => absurd zc1 (not_not_intro (by omega)))
    refine m_run 1 (ps' := (66, [some (.inr (.inl 2)), some (.inl u), some (.inl n), none, none], [.inl u], mW (n, T, h, t, x) M, 0, 0)) rfl ?_
    exact m_ret1 rfl (Or.inl rfl) rfl (K T hT hf)
  · intro a hi1 hi2 ih T u hT hf hu
    rw [sum_step hi2] at hu
    refine m_run 3 (ps' := (9, [some (.inr (.inl 2)), some (.inl u), some (.inl a), none, none], [.inl n, .inl a], mW (n, T, h, t, x) M, 0, 0)) rfl ?_
    refine m_icmp rfl ⟨by omega, by omega⟩ ⟨by omega, by omega⟩ (fun (zc1 : n ≤ a) => absurd zc1 (by omega)) (fun (zc1 : ¬ n ≤ a) => ?_)
    refine m_run 2 (ps' := (14, [some (.inr (.inl 2)), some (.inl u), some (.inl a), some (.inl 0), none], [], mW (n, T, h, t, x) M, 0, 0)) rfl ?_
    refine m_weak [some (.inr (.inl 2)), some (.inl u), some (.inl a), some (.inl 0), none] ⟨rfl, ⟨rfl, ⟨rfl, ⟨rfl, trivial⟩⟩⟩⟩ ?_
    exact l_csI (v := u + exR tb a) hn htb hi1 hi2 (fun T2 hT2 hf2 => ih T2 _ hT2 hf2 (by rw [← hu]; omega)) 0 (by omega) (by omega) T u hT hf (by rw [Int.sub_zero]; rfl)
set_option maxHeartbeats 4000000 in
set_option maxRecDepth 100000 in
theorem k_cs {X : Nat × Nat × (Nat → Int32)} {n : Int} {h : HS} {t : TS} {x : XS} {M : MS} {tb : Int → Int → Int} {T : Int → Int} (hR : repC n T tb) (hT : okT T) : m_Run X 23 [.inr (.inl 2)] (mW (n, T, h, t, x) M) (fun r w => r = some (.inl (exC n tb)) ∧ ∃ T2, w = mW (n, T2, h, t, x) M ∧ okT T2 ∧ ∀ a b, 0 ≤ a → a < n → 0 ≤ b → b < n → T2 (9 * a + b) = tb b a) := by
  have hn := hR.1
  have hl := okN_lo hn
  show m_Sem X 23 (0, [some (.inr (.inl 2)), none, none, none, none], [], mW (n, T, h, t, x) M, 0, 0) _
  refine m_run 4 (ps' := (4, [some (.inr (.inl 2)), some (.inl 0), some (.inl 1), none, none], [], mW (n, T, h, t, x) M, 0, 0)) rfl ?_
  refine m_weak [some (.inr (.inl 2)), some (.inl 0), some (.inl 1), none, none] ⟨rfl, ⟨rfl, ⟨rfl, trivial⟩⟩⟩ ?_
  have h0 : exC n tb = 0 + sumF (exR tb) (n - 1).toNat 1 := by
    unfold exC
    rw [← Int.sub_zero n, sum_step (by omega), Int.sub_zero, Int.zero_add]
    show (0 : Int) + _ = _
    rw [Int.zero_add]
  have g0 : fillX n tb T 1 0 := fun a b h1 h2 h3 h4 => by
    rw [(hR.2 a b h1 h2 h3 h4).1]
    by_cases hd : a = 0 ∧ b = 0
    · rw [hd.1, hd.2]; simp
    · rw [if_neg (by omega)]
  exact l_csO (v := exC n tb) hn (fun a b h1 h2 h3 h4 => (hR.2 a b h1 h2 h3 h4).2) (fun T2 hT2 hf => ⟨rfl, T2, rfl, hT2, fun a b h1 h2 h3 h4 => by rw [hf a b h1 h2 h3 h4, if_pos (by omega)]⟩) 1 (by omega) (by omega) T 0 hT g0 h0.symm
