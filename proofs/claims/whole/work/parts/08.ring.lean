def inN (n e : Int) : Bool := decide (0 ≤ e) && decide (e < n)
theorem inN_t {n e : Int} (h1 : 0 ≤ e) (h2 : e < n) : inN n e = true := by unfold inN; rw [decide_eq_true h1, decide_eq_true h2]; rfl
theorem inN_f {n e : Int} (h : e < 0 ∨ n ≤ e) : inN n e = false := by
  unfold inN
  rcases h with h | h
  · rw [decide_eq_false (by omega : ¬ 0 ≤ e)]; rfl
  · rw [decide_eq_false (by omega : ¬ e < n), Bool.and_false]
theorem inN_i {n e : Int} : inN n e = true ↔ 0 ≤ e ∧ e < n := by unfold inN; simp
theorem inN_i2 {n e : Int} : inN n e = false ↔ e < 0 ∨ n ≤ e := by
  unfold inN
  rw [Bool.and_eq_false_iff, decide_eq_false_iff_not, decide_eq_false_iff_not]
  omega
set_option maxHeartbeats 4000000 in
set_option maxRecDepth 100000 in
theorem k_has {X : Nat × Nat × (Nat → Int32)} {n : Int} {T : Int → Int} {h : HS} {t : TS} {x : XS} {M : MS} {e : Int} (hn : okN n) (he : m_R e) : m_Run X 37 [.inr (.inl 2), .inl e] (mW (n, T, h, t, x) M) (m_V (bI (inN n e)) (mW (n, T, h, t, x) M)) := by
  have hl := okN_lo hn
  show m_Sem X 37 (0, [some (.inr (.inl 2)), some (.inl e)], [], mW (n, T, h, t, x) M, 0, 0) _
  refine m_run 1 (ps' := (1, [some (.inr (.inl 2)), some (.inl e)], [.inl e], mW (n, T, h, t, x) M, 0, 0)) rfl ?_
  refine m_if rfl he (fun (zc1 : e < 0) => ?_) (fun (zc1 : ¬ e < 0) => ?_)
  · refine m_run 1 (ps' := (17, [some (.inr (.inl 2)), some (.inl e)], [.inl 0], mW (n, T, h, t, x) M, 0, 0)) rfl ?_
    exact m_ret1 rfl (Or.inr ⟨rfl, Or.inl rfl⟩) rfl (m_Vi (by rw [inN_f (by omega)]; rfl))
  · refine m_run 3 (ps' := (9, [some (.inr (.inl 2)), some (.inl e)], [.inl n, .inl e], mW (n, T, h, t, x) M, 0, 0)) rfl ?_
    refine m_icmp rfl he ⟨by omega, by omega⟩ (fun (zc2 : n ≤ e) => ?_) (fun (zc2 : ¬ n ≤ e) => ?_)
    · refine m_run 1 (ps' := (17, [some (.inr (.inl 2)), some (.inl e)], [.inl 0], mW (n, T, h, t, x) M, 0, 0)) rfl ?_
      exact m_ret1 rfl (Or.inr ⟨rfl, Or.inl rfl⟩) rfl (m_Vi (by rw [inN_f (by omega)]; rfl))
    · refine m_run 2 (ps' := (17, [some (.inr (.inl 2)), some (.inl e)], [.inl 1], mW (n, T, h, t, x) M, 0, 0)) rfl ?_
      exact m_ret1 rfl (Or.inr ⟨rfl, Or.inr rfl⟩) rfl (m_Vi (by rw [inN_t (by omega) (by omega)]; rfl))
set_option maxHeartbeats 4000000 in
set_option maxRecDepth 100000 in
theorem k_sum {X : Nat × Nat × (Nat → Int32)} {n : Int} {T : Int → Int} {h : HS} {t : TS} {x : XS} {M : MS} {a b : Int} (hn : okN n) (ha : 0 ≤ a) (ha2 : a < n) (hb : 0 ≤ b) (hb2 : b < n) : m_Run X 38 [.inr (.inl 2), .inl a, .inl b] (mW (n, T, h, t, x) M) (m_V (sumS n a b) (mW (n, T, h, t, x) M)) := by
  have hl := okN_lo hn
  show m_Sem X 38 (0, [some (.inr (.inl 2)), some (.inl a), some (.inl b)], [], mW (n, T, h, t, x) M, 0, 0) _
  refine m_run 3 (ps' := (5, [some (.inr (.inl 2)), some (.inl a), some (.inl b)], [.inl 4, .inl n], mW (n, T, h, t, x) M, 0, 0)) rfl ?_
  refine m_icmp rfl ⟨by omega, by omega⟩ ⟨by omega, by omega⟩ (fun (zc1 : ¬ n = 4) => ?_) (fun (zc1 : ¬ ¬ n = 4) => ?_)
  · refine m_run 3 (ps' := (18, [some (.inr (.inl 2)), some (.inl a), some (.inl b)], [.inl 9, .inl n], mW (n, T, h, t, x) M, 0, 0)) rfl ?_
    refine m_icmp rfl ⟨by omega, by omega⟩ ⟨by omega, by omega⟩ (fun (zc2 : ¬ n = 9) => ?_) (fun (zc2 : ¬ ¬ n = 9) => ?_)
    · refine m_run 5 (ps' := (50, [some (.inr (.inl 2)), some (.inl a), some (.inl b)], [.inl n, .inl (a + b)], mW (n, T, h, t, x) M, 0, 0)) rfl ?_
      refine m_icmp rfl ⟨by omega, by omega⟩ ⟨by omega, by omega⟩ (fun (zc3 : n ≤ (a + b)) => ?_) (fun (zc3 : ¬ n ≤ (a + b)) => ?_)
      · refine m_run 6 (ps' := (67, [some (.inr (.inl 2)), some (.inl a), some (.inl b)], [.inl ((a + b) - n)], mW (n, T, h, t, x) M, 0, 0)) rfl ?_
        exact m_ret1 rfl (Or.inl rfl) rfl (m_Vi (by unfold sumS; (repeat' split) <;> first | rfl | omega))
      · refine m_run 4 (ps' := (67, [some (.inr (.inl 2)), some (.inl a), some (.inl b)], [.inl (a + b)], mW (n, T, h, t, x) M, 0, 0)) rfl ?_
        exact m_ret1 rfl (Or.inl rfl) rfl (m_Vi (by unfold sumS; (repeat' split) <;> first | rfl | omega))
    · refine m_run 3 (ps' := (24, [some (.inr (.inl 2)), some (.inl a), some (.inl b)], [.inl 3, .inl a, .inl 3], mW (n, T, h, t, x) M, 0, 0)) rfl ?_
      refine m_div rfl (by omega) (by omega) (by omega) (by omega) ?_
      refine m_run 2 (ps' := (27, [some (.inr (.inl 2)), some (.inl a), some (.inl b)], [.inl 3, .inl b, .inl (a / 3), .inl 3], mW (n, T, h, t, x) M, 0, 0)) rfl ?_
      refine m_div rfl (by omega) (by omega) (by omega) (by omega) ?_
      refine m_run 2 (ps' := (30, [some (.inr (.inl 2)), some (.inl a), some (.inl b)], [.inl 3, .inl ((a / 3) + (b / 3)), .inl 3], mW (n, T, h, t, x) M, 0, 0)) rfl ?_
      refine m_rem rfl (by omega) (by omega) (by omega) (by omega) ?_
      refine m_run 3 (ps' := (34, [some (.inr (.inl 2)), some (.inl a), some (.inl b)], [.inl 3, .inl a, .inl (3 * (((a / 3) + (b / 3)) % 3))], mW (n, T, h, t, x) M, 0, 0)) rfl ?_
      refine m_rem rfl (by omega) (by omega) (by omega) (by omega) ?_
      refine m_run 2 (ps' := (37, [some (.inr (.inl 2)), some (.inl a), some (.inl b)], [.inl 3, .inl b, .inl (a % 3), .inl (3 * (((a / 3) + (b / 3)) % 3))], mW (n, T, h, t, x) M, 0, 0)) rfl ?_
      refine m_rem rfl (by omega) (by omega) (by omega) (by omega) ?_
      refine m_run 2 (ps' := (40, [some (.inr (.inl 2)), some (.inl a), some (.inl b)], [.inl 3, .inl ((a % 3) + (b % 3)), .inl (3 * (((a / 3) + (b / 3)) % 3))], mW (n, T, h, t, x) M, 0, 0)) rfl ?_
      refine m_rem rfl (by omega) (by omega) (by omega) (by omega) ?_
      refine m_run 1 (ps' := (42, [some (.inr (.inl 2)), some (.inl a), some (.inl b)], [.inl ((3 * (((a / 3) + (b / 3)) % 3)) + (((a % 3) + (b % 3)) % 3))], mW (n, T, h, t, x) M, 0, 0)) rfl ?_
      exact m_ret1 rfl (Or.inl rfl) rfl (m_Vi (by unfold sumS; (repeat' split) <;> first | rfl | omega))
  · refine m_run 3 (ps' := (11, [some (.inr (.inl 2)), some (.inl a), some (.inl b)], [.inl ((Int32.ofInt a ^^^ Int32.ofInt b).toInt)], mW (n, T, h, t, x) M, 0, 0)) rfl ?_
    exact m_ret1 rfl (Or.inl rfl) rfl (m_Vi (by unfold sumS; (repeat' split) <;> first | rfl | omega))
set_option maxHeartbeats 4000000 in
set_option maxRecDepth 100000 in
theorem k_dif {X : Nat × Nat × (Nat → Int32)} {n : Int} {T : Int → Int} {h : HS} {t : TS} {x : XS} {M : MS} {a b : Int} (hn : okN n) (ha : 0 ≤ a) (ha2 : a < n) (hb : 0 ≤ b) (hb2 : b < n) : m_Run X 39 [.inr (.inl 2), .inl a, .inl b] (mW (n, T, h, t, x) M) (m_V (difS n a b) (mW (n, T, h, t, x) M)) := by
  have hl := okN_lo hn
  show m_Sem X 39 (0, [some (.inr (.inl 2)), some (.inl a), some (.inl b)], [], mW (n, T, h, t, x) M, 0, 0) _
  refine m_run 3 (ps' := (5, [some (.inr (.inl 2)), some (.inl a), some (.inl b)], [.inl 4, .inl n], mW (n, T, h, t, x) M, 0, 0)) rfl ?_
  refine m_icmp rfl ⟨by omega, by omega⟩ ⟨by omega, by omega⟩ (fun (zc1 : ¬ n = 4) => ?_) (fun (zc1 : ¬ ¬ n = 4) => ?_)
  · refine m_run 3 (ps' := (18, [some (.inr (.inl 2)), some (.inl a), some (.inl b)], [.inl 9, .inl n], mW (n, T, h, t, x) M, 0, 0)) rfl ?_
    refine m_icmp rfl ⟨by omega, by omega⟩ ⟨by omega, by omega⟩ (fun (zc2 : ¬ n = 9) => ?_) (fun (zc2 : ¬ ¬ n = 9) => ?_)
    · refine m_run 2 (ps' := (49, [some (.inr (.inl 2)), some (.inl a), some (.inl b)], [.inl b, .inl a], mW (n, T, h, t, x) M, 0, 0)) rfl ?_
      refine m_icmp rfl ⟨by omega, by omega⟩ ⟨by omega, by omega⟩ (fun (zc3 : b ≤ a) => ?_) (fun (zc3 : ¬ b ≤ a) => ?_)
      · refine m_run 3 (ps' := (66, [some (.inr (.inl 2)), some (.inl a), some (.inl b)], [.inl (a - b)], mW (n, T, h, t, x) M, 0, 0)) rfl ?_
        exact m_ret1 rfl (Or.inl rfl) rfl (m_Vi (by unfold difS; (repeat' split) <;> first | rfl | omega))
      · refine m_run 7 (ps' := (66, [some (.inr (.inl 2)), some (.inl a), some (.inl b)], [.inl ((a - b) + n)], mW (n, T, h, t, x) M, 0, 0)) rfl ?_
        exact m_ret1 rfl (Or.inl rfl) rfl (m_Vi (by unfold difS; (repeat' split) <;> first | rfl | omega))
    · refine m_run 3 (ps' := (24, [some (.inr (.inl 2)), some (.inl a), some (.inl b)], [.inl 3, .inl a, .inl 3], mW (n, T, h, t, x) M, 0, 0)) rfl ?_
      refine m_div rfl (by omega) (by omega) (by omega) (by omega) ?_
      refine m_run 2 (ps' := (27, [some (.inr (.inl 2)), some (.inl a), some (.inl b)], [.inl 3, .inl b, .inl (a / 3), .inl 3], mW (n, T, h, t, x) M, 0, 0)) rfl ?_
      refine m_div rfl (by omega) (by omega) (by omega) (by omega) ?_
      refine m_run 4 (ps' := (32, [some (.inr (.inl 2)), some (.inl a), some (.inl b)], [.inl 3, .inl (((a / 3) - (b / 3)) + 3), .inl 3], mW (n, T, h, t, x) M, 0, 0)) rfl ?_
      refine m_rem rfl (by omega) (by omega) (by omega) (by omega) ?_
      refine m_run 3 (ps' := (36, [some (.inr (.inl 2)), some (.inl a), some (.inl b)], [.inl 3, .inl a, .inl (3 * ((((a / 3) - (b / 3)) + 3) % 3))], mW (n, T, h, t, x) M, 0, 0)) rfl ?_
      refine m_rem rfl (by omega) (by omega) (by omega) (by omega) ?_
      refine m_run 2 (ps' := (39, [some (.inr (.inl 2)), some (.inl a), some (.inl b)], [.inl 3, .inl b, .inl (a % 3), .inl (3 * ((((a / 3) - (b / 3)) + 3) % 3))], mW (n, T, h, t, x) M, 0, 0)) rfl ?_
      refine m_rem rfl (by omega) (by omega) (by omega) (by omega) ?_
      refine m_run 4 (ps' := (44, [some (.inr (.inl 2)), some (.inl a), some (.inl b)], [.inl 3, .inl (((a % 3) - (b % 3)) + 3), .inl (3 * ((((a / 3) - (b / 3)) + 3) % 3))], mW (n, T, h, t, x) M, 0, 0)) rfl ?_
      refine m_rem rfl (by omega) (by omega) (by omega) (by omega) ?_
      refine m_run 1 (ps' := (46, [some (.inr (.inl 2)), some (.inl a), some (.inl b)], [.inl ((3 * ((((a / 3) - (b / 3)) + 3) % 3)) + ((((a % 3) - (b % 3)) + 3) % 3))], mW (n, T, h, t, x) M, 0, 0)) rfl ?_
      exact m_ret1 rfl (Or.inl rfl) rfl (m_Vi (by unfold difS; (repeat' split) <;> first | rfl | omega))
  · refine m_run 3 (ps' := (11, [some (.inr (.inl 2)), some (.inl a), some (.inl b)], [.inl ((Int32.ofInt a ^^^ Int32.ofInt b).toInt)], mW (n, T, h, t, x) M, 0, 0)) rfl ?_
    exact m_ret1 rfl (Or.inl rfl) rfl (m_Vi (by unfold difS; (repeat' split) <;> first | rfl | omega))
set_option maxHeartbeats 4000000 in
set_option maxRecDepth 100000 in
theorem k_times {X : Nat × Nat × (Nat → Int32)} {n : Int} {T : Int → Int} {h : HS} {t : TS} {x : XS} {M : MS} {tb : Int → Int → Int} {a b : Int} (hR : repC n T tb) (ha : 0 ≤ a) (ha2 : a < n) (hb : 0 ≤ b) (hb2 : b < n) : m_Run X 40 [.inr (.inl 2), .inl a, .inl b] (mW (n, T, h, t, x) M) (m_V (tb a b) (mW (n, T, h, t, x) M)) := by
  have hn := hR.1
  have hl := okN_lo hn
  show m_Sem X 40 (0, [some (.inr (.inl 2)), some (.inl a), some (.inl b), none], [], mW (n, T, h, t, x) M, 0, 0) _
  refine m_run 7 (ps' := (8, [some (.inr (.inl 2)), some (.inl a), some (.inl b), some (.inl ((9 * a) + b))], [.inl ((9 * a) + b)], mW (n, T, h, t, x) M, 0, 0)) rfl ?_
  refine m_if rfl ⟨by omega, by omega⟩ (fun (zc1 : ((9 * a) + b) < 0) => absurd zc1 (by omega)) (fun (zc1 : ¬ ((9 * a) + b) < 0) => ?_)
  refine m_run 4 (ps' := (17, [some (.inr (.inl 2)), some (.inl a), some (.inl b), some (.inl ((9 * a) + b))], [.inl 81, .inl ((9 * a) + b)], mW (n, T, h, t, x) M, 0, 0)) rfl ?_
  refine m_icmp rfl ⟨by omega, by omega⟩ ⟨by omega, by omega⟩ (fun (zc2 : 81 ≤ ((9 * a) + b)) => absurd zc2 (by omega)) (fun (zc2 : ¬ 81 ≤ ((9 * a) + b)) => ?_)
  refine m_run 3 (ps' := (25, [some (.inr (.inl 2)), some (.inl a), some (.inl b), some (.inl ((9 * a) + b))], [.inl ((9 * a) + b), .inr (.inl 3)], mW (n, T, h, t, x) M, 0, 0)) rfl ?_
  refine m_iald rfl rfl (by omega) (by omega) (by decide) ?_
  refine m_run 1 (ps' := (30, [some (.inr (.inl 2)), some (.inl a), some (.inl b), some (.inl ((9 * a) + b))], [.inl (T ((9 * a) + b))], mW (n, T, h, t, x) M, 0, 0)) rfl ?_
  exact m_ret1 rfl (Or.inl rfl) rfl (m_Vi (hR.2 a b ha ha2 hb hb2).1)
def sideS (tb : Int → Int → Int) (r : Bool) (a x : Int) : Int := bif r then tb a x else tb x a
set_option maxHeartbeats 4000000 in
set_option maxRecDepth 100000 in
theorem k_side {X : Nat × Nat × (Nat → Int32)} {n : Int} {T : Int → Int} {h : HS} {t : TS} {x : XS} {M : MS} {tb : Int → Int → Int} {r : Bool} {a b : Int} (hR : repC n T tb) (ha : 0 ≤ a) (ha2 : a < n) (hb : 0 ≤ b) (hb2 : b < n) : m_Run X 41 [.inr (.inl 2), .inl a, .inl b, .inl (bI r)] (mW (n, T, h, t, x) M) (m_V (sideS tb r a b) (mW (n, T, h, t, x) M)) := by
  have hn := hR.1
  have hl := okN_lo hn
  show m_Sem X 41 (0, [some (.inr (.inl 2)), some (.inl a), some (.inl b), some (.inl (bI r))], [], mW (n, T, h, t, x) M, 0, 0) _
  refine m_run 1 (ps' := (1, [some (.inr (.inl 2)), some (.inl a), some (.inl b), some (.inl (bI r))], [.inl (bI r)], mW (n, T, h, t, x) M, 0, 0)) rfl ?_
  refine m_if rfl (bI_R r) (fun (zc1 : (bI r) = 0) => ?_) (fun (zc1 : ¬ (bI r) = 0) => ?_)
  · replace zc1 : r = false := bI_e0.mp zc1
    refine m_run 3 (ps' := (16, [some (.inr (.inl 2)), some (.inl a), some (.inl b), some (.inl (bI r))], [.inl a, .inl b, .inr (.inl 2)], mW (n, T, h, t, x) M, 0, 0)) rfl ?_
    refine m_callVF [.inl b, .inl a] [] rfl rfl ⟨_, rfl, rfl⟩ rfl rfl (k_times (a := b) (b := a) hR (by omega) (by omega) (by omega) (by omega)) ?_
    have zt1 := (hR.2 b a (by omega) (by omega) (by omega) (by omega)).2
    show m_Sem X 41 (19, [some (.inr (.inl 2)), some (.inl a), some (.inl b), some (.inl (bI r))], [.inl (tb b a)], mW (n, T, h, t, x) M, 0, 0) _
    exact m_ret1 rfl (Or.inl rfl) rfl (m_Vi (by unfold sideS; rw [zc1]; rfl))
  · replace zc1 : r = true := bI_n0.mp zc1
    refine m_run 3 (ps' := (7, [some (.inr (.inl 2)), some (.inl a), some (.inl b), some (.inl (bI r))], [.inl b, .inl a, .inr (.inl 2)], mW (n, T, h, t, x) M, 0, 0)) rfl ?_
    refine m_callVF [.inl a, .inl b] [] rfl rfl ⟨_, rfl, rfl⟩ rfl rfl (k_times (a := a) (b := b) hR (by omega) (by omega) (by omega) (by omega)) ?_
    have zt1 := (hR.2 a b (by omega) (by omega) (by omega) (by omega)).2
    show m_Sem X 41 (10, [some (.inr (.inl 2)), some (.inl a), some (.inl b), some (.inl (bI r))], [.inl (tb a b)], mW (n, T, h, t, x) M, 0, 0) _
    refine m_run 1 (ps' := (19, [some (.inr (.inl 2)), some (.inl a), some (.inl b), some (.inl (bI r))], [.inl (tb a b)], mW (n, T, h, t, x) M, 0, 0)) rfl ?_
    exact m_ret1 rfl (Or.inl rfl) rfl (m_Vi (by unfold sideS; rw [zc1]; rfl))
theorem sideS_in {n : Int} {T : Int → Int} {tb : Int → Int → Int} (hR : repC n T tb) {r : Bool} {a x : Int} (ha : 0 ≤ a) (ha2 : a < n) (hb : 0 ≤ x) (hb2 : x < n) : 0 ≤ sideS tb r a x ∧ sideS tb r a x < n := by
  cases r
  · exact (hR.2 x a hb hb2 ha ha2).2
  · exact (hR.2 a x ha ha2 hb hb2).2
set_option maxHeartbeats 4000000 in
set_option maxRecDepth 100000 in
theorem l_low {X : Nat × Nat × (Nat → Int32)} {n : Int} {T : Int → Int} {h : HS} {t : TS} {x : XS} {M : MS} {tb : Int → Int → Int} {a b : Int} {r : Bool} (hR : repC n T tb) (ha : 0 ≤ a) (ha2 : a < n) (hb : 0 ≤ b) (hb2 : b < n) : ∀ i, 0 ≤ i → i ≤ n → m_Sem X 42 (3, [some (.inr (.inl 2)), some (.inl a), some (.inl b), some (.inl (bI r)), some (.inl i)], [], mW (n, T, h, t, x) M, 0, 0) (m_V (fstF (fun i => decide (sideS tb r a i = b)) (n - i).toNat i) (mW (n, T, h, t, x) M)) := by
  have hn := hR.1
  have hl := okN_lo hn
  refine m_down 0 n ?_ ?_
  · show m_Sem X 42 (3, [some (.inr (.inl 2)), some (.inl a), some (.inl b), some (.inl (bI r)), some (.inl n)], [], mW (n, T, h, t, x) M, 0, 0) _
    refine m_run 3 (ps' := (9, [some (.inr (.inl 2)), some (.inl a), some (.inl b), some (.inl (bI r)), some (.inl n)], [.inl n, .inl n], mW (n, T, h, t, x) M, 0, 0)) rfl ?_
    refine m_icmp rfl ⟨by omega, by omega⟩ ⟨by omega, by omega⟩ (fun (zc1 : n ≤ n) => ?_) (fun (zc1 : ¬ n ≤ n) => absurd zc1 (not_not_intro (by omega)))
    refine m_run 1 (ps' := (34, [some (.inr (.inl 2)), some (.inl a), some (.inl b), some (.inl (bI r)), some (.inl n)], [.inl (-1)], mW (n, T, h, t, x) M, 0, 0)) rfl ?_
    exact m_ret1 rfl (Or.inl rfl) rfl (m_Vi (fst_end _ _).symm)
  · intro i hi1 hi2 ih 
    refine m_run 3 (ps' := (9, [some (.inr (.inl 2)), some (.inl a), some (.inl b), some (.inl (bI r)), some (.inl i)], [.inl n, .inl i], mW (n, T, h, t, x) M, 0, 0)) rfl ?_
    refine m_icmp rfl ⟨by omega, by omega⟩ ⟨by omega, by omega⟩ (fun (zc1 : n ≤ i) => absurd zc1 (by omega)) (fun (zc1 : ¬ n ≤ i) => ?_)
    refine m_run 4 (ps' := (17, [some (.inr (.inl 2)), some (.inl a), some (.inl b), some (.inl (bI r)), some (.inl i)], [.inl (bI r), .inl i, .inl a, .inr (.inl 2)], mW (n, T, h, t, x) M, 0, 0)) rfl ?_
    refine m_callVF [.inl a, .inl i, .inl (bI r)] [] rfl rfl ⟨_, rfl, rfl⟩ rfl rfl (k_side (a := a) (b := i) (r := r) hR (by omega) (by omega) (by omega) (by omega)) ?_
    have zt1 := sideS_in hR (r := r) (a := a) (x := i) (by omega) (by omega) (by omega) (by omega)
    show m_Sem X 42 (20, [some (.inr (.inl 2)), some (.inl a), some (.inl b), some (.inl (bI r)), some (.inl i)], [.inl (sideS tb r a i)], mW (n, T, h, t, x) M, 0, 0) _
    refine m_run 1 (ps' := (21, [some (.inr (.inl 2)), some (.inl a), some (.inl b), some (.inl (bI r)), some (.inl i)], [.inl b, .inl (sideS tb r a i)], mW (n, T, h, t, x) M, 0, 0)) rfl ?_
    refine m_icmp rfl ⟨by omega, by omega⟩ ⟨by omega, by omega⟩ (fun (zc2 : ¬ (sideS tb r a i) = b) => ?_) (fun (zc2 : ¬ ¬ (sideS tb r a i) = b) => ?_)
    · refine m_run 2 (ps' := (3, [some (.inr (.inl 2)), some (.inl a), some (.inl b), some (.inl (bI r)), some (.inl (i + 1))], [], mW (n, T, h, t, x) M, 0, 0)) rfl ?_
      refine m_weak [some (.inr (.inl 2)), some (.inl a), some (.inl b), some (.inl (bI r)), some (.inl (i + 1))] ⟨rfl, ⟨rfl, ⟨rfl, ⟨rfl, ⟨rfl, trivial⟩⟩⟩⟩⟩ ?_
      rw [fst_f hi2 (decide_eq_false zc2)]
      exact ih
    · refine m_run 1 (ps' := (26, [some (.inr (.inl 2)), some (.inl a), some (.inl b), some (.inl (bI r)), some (.inl i)], [.inl i], mW (n, T, h, t, x) M, 0, 0)) rfl ?_
      exact m_ret1 rfl (Or.inl rfl) rfl (m_Vi (fst_t hi2 (decide_eq_true zc2)).symm)
set_option maxHeartbeats 4000000 in
set_option maxRecDepth 100000 in
theorem k_low {X : Nat × Nat × (Nat → Int32)} {n : Int} {T : Int → Int} {h : HS} {t : TS} {x : XS} {M : MS} {tb : Int → Int → Int} {a b : Int} {r : Bool} (hR : repC n T tb) (ha : 0 ≤ a) (ha2 : a < n) (hb : 0 ≤ b) (hb2 : b < n) : m_Run X 42 [.inr (.inl 2), .inl a, .inl b, .inl (bI r)] (mW (n, T, h, t, x) M) (m_V (fstF (fun i => decide (sideS tb r a i = b)) n.toNat 0) (mW (n, T, h, t, x) M)) := by
  have hn := hR.1
  have hl := okN_lo hn
  show m_Sem X 42 (0, [some (.inr (.inl 2)), some (.inl a), some (.inl b), some (.inl (bI r)), none], [], mW (n, T, h, t, x) M, 0, 0) _
  refine m_run 2 (ps' := (3, [some (.inr (.inl 2)), some (.inl a), some (.inl b), some (.inl (bI r)), some (.inl 0)], [], mW (n, T, h, t, x) M, 0, 0)) rfl ?_
  refine m_weak [some (.inr (.inl 2)), some (.inl a), some (.inl b), some (.inl (bI r)), some (.inl 0)] ⟨rfl, ⟨rfl, ⟨rfl, ⟨rfl, ⟨rfl, trivial⟩⟩⟩⟩⟩ ?_
  have h0 := l_low (X := X) (h := h) (t := t) (x := x) (M := M) (r := r) hR ha ha2 hb hb2 0 (by omega) (by omega)
  rw [z_sub] at h0
  exact h0
