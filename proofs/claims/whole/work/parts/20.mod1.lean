def insS (v l m : Int) : Bool := decide (l ≤ v) && decide (v ≤ m)
theorem insS_i {v l m : Int} : insS v l m = true ↔ l ≤ v ∧ v ≤ m := by unfold insS; simp
theorem insS_f {v l m : Int} : insS v l m = false ↔ v < l ∨ m < v := by
  unfold insS
  rw [Bool.and_eq_false_iff, decide_eq_false_iff_not, decide_eq_false_iff_not]
  omega
set_option maxHeartbeats 4000000 in
set_option maxRecDepth 100000 in
theorem d_in {X : Nat × Nat × (Nat → Int32)} {C : CS} {S : Int → Int} {P K : TS} {F : Int × Int × Int} {B : (Nat → Int64) × (Nat → Int64)} {G : Int → Int} {E : Int × Int} {v l m : Int} (hv : m_R v) (hl : m_R l) (hm : m_R m) : m_Run X 86 [.inl v, .inl l, .inl m] (mW C (S, P, K, F, B, G, E)) (m_V (bI (insS v l m)) (mW C (S, P, K, F, B, G, E))) := by
  show m_Sem X 86 (0, [some (.inl v), some (.inl l), some (.inl m)], [], mW C (S, P, K, F, B, G, E), 0, 0) _
  refine m_run 2 (ps' := (2, [some (.inl v), some (.inl l), some (.inl m)], [.inl l, .inl v], mW C (S, P, K, F, B, G, E), 0, 0)) rfl ?_
  refine m_icmp rfl hv hl (fun (zc1 : v < l) => ?_) (fun (zc1 : ¬ v < l) => ?_)
  · refine m_run 1 (ps' := (15, [some (.inl v), some (.inl l), some (.inl m)], [.inl 0], mW C (S, P, K, F, B, G, E), 0, 0)) rfl ?_
    exact m_ret1 rfl (Or.inr ⟨rfl, Or.inl rfl⟩) rfl (m_Vb (b0 (insS_f.mpr (by omega))))
  · refine m_run 2 (ps' := (7, [some (.inl v), some (.inl l), some (.inl m)], [.inl m, .inl v], mW C (S, P, K, F, B, G, E), 0, 0)) rfl ?_
    refine m_icmp rfl hv hm (fun (zc2 : m < v) => ?_) (fun (zc2 : ¬ m < v) => ?_)
    · refine m_run 1 (ps' := (15, [some (.inl v), some (.inl l), some (.inl m)], [.inl 0], mW C (S, P, K, F, B, G, E), 0, 0)) rfl ?_
      exact m_ret1 rfl (Or.inr ⟨rfl, Or.inl rfl⟩) rfl (m_Vb (b0 (insS_f.mpr (by omega))))
    · refine m_run 2 (ps' := (15, [some (.inl v), some (.inl l), some (.inl m)], [.inl 1], mW C (S, P, K, F, B, G, E), 0, 0)) rfl ?_
      exact m_ret1 rfl (Or.inr ⟨rfl, Or.inr rfl⟩) rfl (m_Vb (b1 (insS_i.mpr (by omega))))
set_option maxHeartbeats 4000000 in
set_option maxRecDepth 100000 in
theorem d_el {X : Nat × Nat × (Nat → Int32)} {C : CS} {n : Int} {S : Int → Int} {P K : TS} {F : Int × Int × Int} {B : (Nat → Int64) × (Nat → Int64)} {G : Int → Int} {E : Int × Int} {e : Int} (hn : okN n) (hs0 : S 0 = n) (he : m_R e) : m_Run X 88 [.inr (.inl 13), .inl e] (mW C (S, P, K, F, B, G, E)) (m_V (bI (inN n e)) (mW C (S, P, K, F, B, G, E))) := by
  have hl := okN_lo hn
  show m_Sem X 88 (0, [some (.inr (.inl 13)), some (.inl e)], [], mW C (S, P, K, F, B, G, E), 0, 0) _
  refine m_run 1 (ps' := (1, [some (.inr (.inl 13)), some (.inl e)], [.inl e], mW C (S, P, K, F, B, G, E), 0, 0)) rfl ?_
  refine m_if rfl he (fun (zc1 : e < 0) => ?_) (fun (zc1 : ¬ e < 0) => ?_)
  · refine m_run 1 (ps' := (19, [some (.inr (.inl 13)), some (.inl e)], [.inl 0], mW C (S, P, K, F, B, G, E), 0, 0)) rfl ?_
    exact m_ret1 rfl (Or.inr ⟨rfl, Or.inl rfl⟩) rfl (m_Vb (b0 (inN_f (by omega))))
  · refine m_run 4 (ps' := (10, [some (.inr (.inl 13)), some (.inl e)], [.inl 0, .inr (.inl 14), .inl e], mW C (S, P, K, F, B, G, E), 0, 0)) rfl ?_
    refine m_iald rfl rfl (by omega) (by omega) (by decide) ?_
    show m_Sem X 88 (11, [some (.inr (.inl 13)), some (.inl e)], [.inl (S 0), .inl e], mW C (S, P, K, F, B, G, E), 0, 0) _
    rw [hs0]
    refine m_icmp rfl he ⟨by omega, by omega⟩ (fun (zc2 : n ≤ e) => ?_) (fun (zc2 : ¬ n ≤ e) => ?_)
    · refine m_run 1 (ps' := (19, [some (.inr (.inl 13)), some (.inl e)], [.inl 0], mW C (S, P, K, F, B, G, E), 0, 0)) rfl ?_
      exact m_ret1 rfl (Or.inr ⟨rfl, Or.inl rfl⟩) rfl (m_Vb (b0 (inN_f (by omega))))
    · refine m_run 2 (ps' := (19, [some (.inr (.inl 13)), some (.inl e)], [.inl 1], mW C (S, P, K, F, B, G, E), 0, 0)) rfl ?_
      exact m_ret1 rfl (Or.inr ⟨rfl, Or.inr rfl⟩) rfl (m_Vb (b1 (inN_t (by omega) (by omega))))
set_option maxHeartbeats 4000000 in
set_option maxRecDepth 100000 in
theorem d_pts {X : Nat × Nat × (Nat → Int32)} {C : CS} {n : Int} {S : Int → Int} {P K : TS} {F : Int × Int × Int} {B : (Nat → Int64) × (Nat → Int64)} {G : Int → Int} {E : Int × Int} (hs0 : S 0 = n) : m_Run X 89 [.inr (.inl 13)] (mW C (S, P, K, F, B, G, E)) (m_V (NP n) (mW C (S, P, K, F, B, G, E))) := by
  show m_Sem X 89 (0, [some (.inr (.inl 13))], [], mW C (S, P, K, F, B, G, E), 0, 0) _
  refine m_run 3 (ps' := (5, [some (.inr (.inl 13))], [.inl 0, .inr (.inl 14)], mW C (S, P, K, F, B, G, E), 0, 0)) rfl ?_
  refine m_iald rfl rfl (by omega) (by omega) (by decide) ?_
  show m_Sem X 89 (6, [some (.inr (.inl 13))], [.inl (S 0)], mW C (S, P, K, F, B, G, E), 0, 0) _
  rw [hs0]
  refine m_run 3 (ps' := (11, [some (.inr (.inl 13))], [.inl 0, .inr (.inl 14), .inl n], mW C (S, P, K, F, B, G, E), 0, 0)) rfl ?_
  refine m_iald rfl rfl (by omega) (by omega) (by decide) ?_
  show m_Sem X 89 (12, [some (.inr (.inl 13))], [.inl (S 0), .inl n], mW C (S, P, K, F, B, G, E), 0, 0) _
  rw [hs0]
  refine m_run 4 (ps' := (18, [some (.inr (.inl 13))], [.inl 0, .inr (.inl 14), .inl (n * n)], mW C (S, P, K, F, B, G, E), 0, 0)) rfl ?_
  refine m_iald rfl rfl (by omega) (by omega) (by decide) ?_
  show m_Sem X 89 (19, [some (.inr (.inl 13))], [.inl (S 0), .inl (n * n)], mW C (S, P, K, F, B, G, E), 0, 0) _
  rw [hs0]
  refine m_run 3 (ps' := (22, [some (.inr (.inl 13))], [.inl (((n * n) + n) + 1)], mW C (S, P, K, F, B, G, E), 0, 0)) rfl ?_
  exact m_ret1 rfl (Or.inl rfl) rfl (m_Vi rfl)
set_option maxHeartbeats 4000000 in
set_option maxRecDepth 100000 in
theorem d_ispt {X : Nat × Nat × (Nat → Int32)} {C : CS} {n : Int} {S : Int → Int} {P K : TS} {F : Int × Int × Int} {B : (Nat → Int64) × (Nat → Int64)} {G : Int → Int} {E : Int × Int} {e : Int} (hn : okN n) (hs0 : S 0 = n) (he : m_R e) : m_Run X 90 [.inr (.inl 13), .inl e] (mW C (S, P, K, F, B, G, E)) (m_V (bI (inN (NP n) e)) (mW C (S, P, K, F, B, G, E))) := by
  have hl := okN_lo hn
  have hq := sq_b hn
  have hnp : NP n = n * n + n + 1 := rfl
  show m_Sem X 90 (0, [some (.inr (.inl 13)), some (.inl e)], [], mW C (S, P, K, F, B, G, E), 0, 0) _
  refine m_run 1 (ps' := (1, [some (.inr (.inl 13)), some (.inl e)], [.inl e], mW C (S, P, K, F, B, G, E), 0, 0)) rfl ?_
  refine m_if rfl he (fun (zc1 : e < 0) => ?_) (fun (zc1 : ¬ e < 0) => ?_)
  · refine m_run 1 (ps' := (17, [some (.inr (.inl 13)), some (.inl e)], [.inl 0], mW C (S, P, K, F, B, G, E), 0, 0)) rfl ?_
    exact m_ret1 rfl (Or.inr ⟨rfl, Or.inl rfl⟩) rfl (m_Vb (b0 (inN_f (by omega))))
  · refine m_run 2 (ps' := (6, [some (.inr (.inl 13)), some (.inl e)], [.inr (.inl 13), .inl e], mW C (S, P, K, F, B, G, E), 0, 0)) rfl ?_
    refine m_callVF [] [.inl e] rfl rfl ⟨_, rfl, rfl⟩ rfl rfl (d_pts hs0) ?_
    show m_Sem X 90 (9, [some (.inr (.inl 13)), some (.inl e)], [.inl (NP n), .inl e], mW C (S, P, K, F, B, G, E), 0, 0) _
    refine m_icmp rfl he ⟨by omega, by omega⟩ (fun (zc2 : (NP n) ≤ e) => ?_) (fun (zc2 : ¬ (NP n) ≤ e) => ?_)
    · refine m_run 1 (ps' := (17, [some (.inr (.inl 13)), some (.inl e)], [.inl 0], mW C (S, P, K, F, B, G, E), 0, 0)) rfl ?_
      exact m_ret1 rfl (Or.inr ⟨rfl, Or.inl rfl⟩) rfl (m_Vb (b0 (inN_f (by omega))))
    · refine m_run 2 (ps' := (17, [some (.inr (.inl 13)), some (.inl e)], [.inl 1], mW C (S, P, K, F, B, G, E), 0, 0)) rfl ?_
      exact m_ret1 rfl (Or.inr ⟨rfl, Or.inr rfl⟩) rfl (m_Vb (b1 (inN_t (by omega) (by omega))))
theorem sumM {n a b : Int} (hn : okN n) (ha : 0 ≤ a) (ha' : a < n) (hb : 0 ≤ b) (hb' : b < n) : (if n = 4 then (Int32.ofInt a ^^^ Int32.ofInt b).toInt else if n = 9 then 3 * ((a / 3 + b / 3) % 3) + (a + b) % 3 else (a + b) % n) = sumS n a b := all2 (P := fun n a b => (if n = 4 then (Int32.ofInt a ^^^ Int32.ofInt b).toInt else if n = 9 then 3 * ((a / 3 + b / 3) % 3) + (a + b) % 3 else (a + b) % n) = sumS n a b) (by decide +kernel) hn ha ha' hb hb'
theorem fpM {n a b : Int} (hn : okN n) (ha : 0 ≤ a) (ha' : a < n) (hb : 0 ≤ b) (hb' : b < n) : (if n = 4 then (if a = 0 ∨ b = 0 then 0 else if a = 1 then b else if b = 1 then a else if a = b then 5 - a else 1) else if n = 9 then 3 * ((a / 3 * (b % 3) + a % 3 * (b / 3)) % 3) + (a % 3 * (b % 3) + 2 * (a / 3) * (b / 3)) % 3 else a * b % n) = fpS n a b := all2 (P := fun n a b => (if n = 4 then (if a = 0 ∨ b = 0 then 0 else if a = 1 then b else if b = 1 then a else if a = b then 5 - a else 1) else if n = 9 then 3 * ((a / 3 * (b % 3) + a % 3 * (b / 3)) % 3) + (a % 3 * (b % 3) + 2 * (a / 3) * (b / 3)) % 3 else a * b % n) = fpS n a b) (by decide +kernel) hn ha ha' hb hb'
set_option maxHeartbeats 4000000 in
set_option maxRecDepth 100000 in
theorem d_sum {X : Nat × Nat × (Nat → Int32)} {C : CS} {n : Int} {S : Int → Int} {P K : TS} {F : Int × Int × Int} {B : (Nat → Int64) × (Nat → Int64)} {G : Int → Int} {E : Int × Int} {a b : Int} (hn : okN n) (hs0 : S 0 = n) (ha : 0 ≤ a) (ha2 : a < n) (hb : 0 ≤ b) (hb2 : b < n) : m_Run X 91 [.inr (.inl 13), .inl a, .inl b] (mW C (S, P, K, F, B, G, E)) (m_V (sumS n a b) (mW C (S, P, K, F, B, G, E))) := by
  have hl := okN_lo hn
  show m_Sem X 91 (0, [some (.inr (.inl 13)), some (.inl a), some (.inl b), none], [], mW C (S, P, K, F, B, G, E), 0, 0) _
  refine m_run 3 (ps' := (5, [some (.inr (.inl 13)), some (.inl a), some (.inl b), none], [.inl 0, .inr (.inl 14)], mW C (S, P, K, F, B, G, E), 0, 0)) rfl ?_
  refine m_iald rfl rfl (by omega) (by omega) (by decide) ?_
  show m_Sem X 91 (6, [some (.inr (.inl 13)), some (.inl a), some (.inl b), none], [.inl (S 0)], mW C (S, P, K, F, B, G, E), 0, 0) _
  rw [hs0]
  refine m_run 3 (ps' := (9, [some (.inr (.inl 13)), some (.inl a), some (.inl b), some (.inl n)], [.inl 4, .inl n], mW C (S, P, K, F, B, G, E), 0, 0)) rfl ?_
  refine m_icmp rfl ⟨by omega, by omega⟩ ⟨by omega, by omega⟩ (fun (zc1 : ¬ n = 4) => ?_) (fun (zc1 : ¬ ¬ n = 4) => ?_)
  · refine m_run 2 (ps' := (21, [some (.inr (.inl 13)), some (.inl a), some (.inl b), some (.inl n)], [.inl 9, .inl n], mW C (S, P, K, F, B, G, E), 0, 0)) rfl ?_
    refine m_icmp rfl ⟨by omega, by omega⟩ ⟨by omega, by omega⟩ (fun (zc2 : ¬ n = 9) => ?_) (fun (zc2 : ¬ ¬ n = 9) => ?_)
    · refine m_run 4 (ps' := (48, [some (.inr (.inl 13)), some (.inl a), some (.inl b), some (.inl n)], [.inl n, .inl (a + b)], mW C (S, P, K, F, B, G, E), 0, 0)) rfl ?_
      refine m_rem rfl (by omega) (by omega) (by omega) (by omega) ?_
      exact m_ret1 rfl (Or.inl rfl) rfl (m_Vi (by rw [← sumM hn ha ha2 hb hb2]; (repeat' split) <;> first | rfl | (exfalso; omega) | omega))
    · replace zc2 : n = 9 := Decidable.not_not.mp zc2
      refine m_run 3 (ps' := (27, [some (.inr (.inl 13)), some (.inl a), some (.inl b), some (.inl n)], [.inl 3, .inl a, .inl 3], mW C (S, P, K, F, B, G, E), 0, 0)) rfl ?_
      refine m_div rfl (by omega) (by omega) (by omega) (by omega) ?_
      refine m_run 2 (ps' := (30, [some (.inr (.inl 13)), some (.inl a), some (.inl b), some (.inl n)], [.inl 3, .inl b, .inl (a / 3), .inl 3], mW C (S, P, K, F, B, G, E), 0, 0)) rfl ?_
      refine m_div rfl (by omega) (by omega) (by omega) (by omega) ?_
      refine m_run 2 (ps' := (33, [some (.inr (.inl 13)), some (.inl a), some (.inl b), some (.inl n)], [.inl 3, .inl ((a / 3) + (b / 3)), .inl 3], mW C (S, P, K, F, B, G, E), 0, 0)) rfl ?_
      refine m_rem rfl (by omega) (by omega) (by omega) (by omega) ?_
      refine m_run 5 (ps' := (39, [some (.inr (.inl 13)), some (.inl a), some (.inl b), some (.inl n)], [.inl 3, .inl (a + b), .inl (3 * (((a / 3) + (b / 3)) % 3))], mW C (S, P, K, F, B, G, E), 0, 0)) rfl ?_
      refine m_rem rfl (by omega) (by omega) (by omega) (by omega) ?_
      refine m_run 2 (ps' := (49, [some (.inr (.inl 13)), some (.inl a), some (.inl b), some (.inl n)], [.inl ((3 * (((a / 3) + (b / 3)) % 3)) + ((a + b) % 3))], mW C (S, P, K, F, B, G, E), 0, 0)) rfl ?_
      exact m_ret1 rfl (Or.inl rfl) rfl (m_Vi (by rw [← sumM hn ha ha2 hb hb2]; (repeat' split) <;> first | rfl | (exfalso; omega) | omega))
  · replace zc1 : n = 4 := Decidable.not_not.mp zc1
    refine m_run 4 (ps' := (49, [some (.inr (.inl 13)), some (.inl a), some (.inl b), some (.inl n)], [.inl ((Int32.ofInt a ^^^ Int32.ofInt b).toInt)], mW C (S, P, K, F, B, G, E), 0, 0)) rfl ?_
    exact m_ret1 rfl (Or.inl rfl) rfl (m_Vi (by rw [← sumM hn ha ha2 hb hb2]; (repeat' split) <;> first | rfl | (exfalso; omega) | omega))
set_option maxHeartbeats 4000000 in
set_option maxRecDepth 100000 in
theorem e_less {X : Nat × Nat × (Nat → Int32)} {C : CS} {n : Int} {S : Int → Int} {P K : TS} {F : Int × Int × Int} {B : (Nat → Int64) × (Nat → Int64)} {G : Int → Int} {E : Int × Int} {a b : Int} (hn : okN n) (hs0 : S 0 = n) (ha : 0 ≤ a) (ha2 : a < n) (hb : 0 ≤ b) (hb2 : b < n) : ∀ iv : Int, 0 ≤ iv → iv ≤ (difS n a b) → m_Sem X 92 (2, [some (.inr (.inl 13)), some (.inl a), some (.inl b), some (.inl iv)], [], mW C (S, P, K, F, B, G, E), 0, 0) (m_V (difS n a b) (mW C (S, P, K, F, B, G, E))) := by
  have hl := okN_lo hn
  have hdi := difS_in hn ha ha2 hb hb2
  refine m_down 0 (difS n a b) ?_ ?_
  · show m_Sem X 92 (2, [some (.inr (.inl 13)), some (.inl a), some (.inl b), some (.inl (difS n a b))], [], mW C (S, P, K, F, B, G, E), 0, 0) _
    refine m_run 3 (ps' := (5, [some (.inr (.inl 13)), some (.inl a), some (.inl b), some (.inl (difS n a b))], [.inl (difS n a b), .inl b, .inr (.inl 13)], mW C (S, P, K, F, B, G, E), 0, 0)) rfl ?_
    refine m_callVF [.inl b, .inl (difS n a b)] [] rfl rfl ⟨_, rfl, rfl⟩ rfl rfl (d_sum (a := b) (b := (difS n a b)) hn hs0 (by omega) (by omega) (by omega) (by omega)) ?_
    have zt1 := sumS_in (n := n) (a := b) (b := (difS n a b)) hn (by omega) (by omega) (by omega) (by omega)
    show m_Sem X 92 (8, [some (.inr (.inl 13)), some (.inl a), some (.inl b), some (.inl (difS n a b))], [.inl (sumS n b (difS n a b))], mW C (S, P, K, F, B, G, E), 0, 0) _
    refine m_run 1 (ps' := (9, [some (.inr (.inl 13)), some (.inl a), some (.inl b), some (.inl (difS n a b))], [.inl a, .inl (sumS n b (difS n a b))], mW C (S, P, K, F, B, G, E), 0, 0)) rfl ?_
    refine m_icmp rfl ⟨by omega, by omega⟩ ⟨by omega, by omega⟩ (fun (zc1 : (sumS n b (difS n a b)) = a) => ?_) (fun (zc1 : ¬ (sumS n b (difS n a b)) = a) => absurd zc1 (not_not_intro (by exact sum_dif hn ha ha2 hb hb2)))
    refine m_run 1 (ps' := (19, [some (.inr (.inl 13)), some (.inl a), some (.inl b), some (.inl (difS n a b))], [.inl (difS n a b)], mW C (S, P, K, F, B, G, E), 0, 0)) rfl ?_
    exact m_ret1 rfl (Or.inl rfl) rfl (m_Vi rfl)
  · intro iv hi1 hi2 ih 
    refine m_run 3 (ps' := (5, [some (.inr (.inl 13)), some (.inl a), some (.inl b), some (.inl iv)], [.inl iv, .inl b, .inr (.inl 13)], mW C (S, P, K, F, B, G, E), 0, 0)) rfl ?_
    refine m_callVF [.inl b, .inl iv] [] rfl rfl ⟨_, rfl, rfl⟩ rfl rfl (d_sum (a := b) (b := iv) hn hs0 (by omega) (by omega) (by omega) (by omega)) ?_
    have zt1 := sumS_in (n := n) (a := b) (b := iv) hn (by omega) (by omega) (by omega) (by omega)
    show m_Sem X 92 (8, [some (.inr (.inl 13)), some (.inl a), some (.inl b), some (.inl iv)], [.inl (sumS n b iv)], mW C (S, P, K, F, B, G, E), 0, 0) _
    refine m_run 1 (ps' := (9, [some (.inr (.inl 13)), some (.inl a), some (.inl b), some (.inl iv)], [.inl a, .inl (sumS n b iv)], mW C (S, P, K, F, B, G, E), 0, 0)) rfl ?_
    refine m_icmp rfl ⟨by omega, by omega⟩ ⟨by omega, by omega⟩ (fun (zc1 : (sumS n b iv) = a) => absurd zc1 (by intro h9; have h8 := dif_sum (a := iv) hn hi1 (by omega) hb hb2; rw [h9] at h8; omega)) (fun (zc1 : ¬ (sumS n b iv) = a) => ?_)
    refine m_run 2 (ps' := (2, [some (.inr (.inl 13)), some (.inl a), some (.inl b), some (.inl (iv + 1))], [], mW C (S, P, K, F, B, G, E), 0, 0)) rfl ?_
    refine m_weak [some (.inr (.inl 13)), some (.inl a), some (.inl b), some (.inl (iv + 1))] ⟨rfl, ⟨rfl, ⟨rfl, ⟨rfl, trivial⟩⟩⟩⟩ ?_
    exact ih
set_option maxHeartbeats 4000000 in
set_option maxRecDepth 100000 in
theorem d_less {X : Nat × Nat × (Nat → Int32)} {C : CS} {n : Int} {S : Int → Int} {P K : TS} {F : Int × Int × Int} {B : (Nat → Int64) × (Nat → Int64)} {G : Int → Int} {E : Int × Int} {a b : Int} (hn : okN n) (hs0 : S 0 = n) (ha : 0 ≤ a) (ha2 : a < n) (hb : 0 ≤ b) (hb2 : b < n) : m_Run X 92 [.inr (.inl 13), .inl a, .inl b] (mW C (S, P, K, F, B, G, E)) (m_V (difS n a b) (mW C (S, P, K, F, B, G, E))) := by
  have hl := okN_lo hn
  have hdi := difS_in hn ha ha2 hb hb2
  show m_Sem X 92 (0, [some (.inr (.inl 13)), some (.inl a), some (.inl b), none], [], mW C (S, P, K, F, B, G, E), 0, 0) _
  refine m_run 2 (ps' := (2, [some (.inr (.inl 13)), some (.inl a), some (.inl b), some (.inl 0)], [], mW C (S, P, K, F, B, G, E), 0, 0)) rfl ?_
  refine m_weak [some (.inr (.inl 13)), some (.inl a), some (.inl b), some (.inl 0)] ⟨rfl, ⟨rfl, ⟨rfl, ⟨rfl, trivial⟩⟩⟩⟩ ?_
  exact e_less hn hs0 ha ha2 hb hb2 0 (by omega) hdi.1
set_option maxHeartbeats 4000000 in
set_option maxRecDepth 100000 in
theorem d_fp {X : Nat × Nat × (Nat → Int32)} {C : CS} {n : Int} {S : Int → Int} {P K : TS} {F : Int × Int × Int} {B : (Nat → Int64) × (Nat → Int64)} {G : Int → Int} {E : Int × Int} {a b : Int} (hn : okN n) (hs0 : S 0 = n) (ha : 0 ≤ a) (ha2 : a < n) (hb : 0 ≤ b) (hb2 : b < n) : m_Run X 93 [.inr (.inl 13), .inl a, .inl b] (mW C (S, P, K, F, B, G, E)) (m_V (fpS n a b) (mW C (S, P, K, F, B, G, E))) := by
  have hl := okN_lo hn
  have p0 := mul_b (x := a) (y := b) (B := 8) (C := 8) ha (by omega) hb (by omega)
  have p1 := mul_b (x := a / 3) (y := b % 3) (B := 2) (C := 2) (by omega) (by omega) (by omega) (by omega)
  have p2 := mul_b (x := a % 3) (y := b / 3) (B := 2) (C := 2) (by omega) (by omega) (by omega) (by omega)
  have p3 := mul_b (x := a % 3) (y := b % 3) (B := 2) (C := 2) (by omega) (by omega) (by omega) (by omega)
  have p4 := mul_b (x := 2 * (a / 3)) (y := b / 3) (B := 4) (C := 2) (by omega) (by omega) (by omega) (by omega)
  show m_Sem X 93 (0, [some (.inr (.inl 13)), some (.inl a), some (.inl b), none, none, none], [], mW C (S, P, K, F, B, G, E), 0, 0) _
  refine m_run 3 (ps' := (5, [some (.inr (.inl 13)), some (.inl a), some (.inl b), none, none, none], [.inl 0, .inr (.inl 14)], mW C (S, P, K, F, B, G, E), 0, 0)) rfl ?_
  refine m_iald rfl rfl (by omega) (by omega) (by decide) ?_
  show m_Sem X 93 (6, [some (.inr (.inl 13)), some (.inl a), some (.inl b), none, none, none], [.inl (S 0)], mW C (S, P, K, F, B, G, E), 0, 0) _
  rw [hs0]
  refine m_run 3 (ps' := (9, [some (.inr (.inl 13)), some (.inl a), some (.inl b), some (.inl n), none, none], [.inl 4, .inl n], mW C (S, P, K, F, B, G, E), 0, 0)) rfl ?_
  refine m_icmp rfl ⟨by omega, by omega⟩ ⟨by omega, by omega⟩ (fun (zc1 : ¬ n = 4) => ?_) (fun (zc1 : ¬ ¬ n = 4) => ?_)
  · refine m_run 2 (ps' := (58, [some (.inr (.inl 13)), some (.inl a), some (.inl b), some (.inl n), none, none], [.inl 9, .inl n], mW C (S, P, K, F, B, G, E), 0, 0)) rfl ?_
    refine m_icmp rfl ⟨by omega, by omega⟩ ⟨by omega, by omega⟩ (fun (zc2 : ¬ n = 9) => ?_) (fun (zc2 : ¬ ¬ n = 9) => ?_)
    · refine m_run 4 (ps' := (113, [some (.inr (.inl 13)), some (.inl a), some (.inl b), some (.inl n), none, none], [.inl n, .inl (a * b)], mW C (S, P, K, F, B, G, E), 0, 0)) rfl ?_
      refine m_rem rfl (by omega) (by omega) (by omega) (by omega) ?_
      exact m_ret1 rfl (Or.inl rfl) rfl (m_Vi (by rw [← fpM hn ha ha2 hb hb2]; (repeat' split) <;> first | rfl | (exfalso; omega) | omega))
    · replace zc2 : n = 9 := Decidable.not_not.mp zc2
      refine m_run 2 (ps' := (63, [some (.inr (.inl 13)), some (.inl a), some (.inl b), some (.inl n), none, none], [.inl 3, .inl a], mW C (S, P, K, F, B, G, E), 0, 0)) rfl ?_
      refine m_div rfl (by omega) (by omega) (by omega) (by omega) ?_
      refine m_run 2 (ps' := (66, [some (.inr (.inl 13)), some (.inl a), some (.inl b), some (.inl n), none, none], [.inl 3, .inl b, .inl (a / 3)], mW C (S, P, K, F, B, G, E), 0, 0)) rfl ?_
      refine m_rem rfl (by omega) (by omega) (by omega) (by omega) ?_
      refine m_run 3 (ps' := (70, [some (.inr (.inl 13)), some (.inl a), some (.inl b), some (.inl n), none, none], [.inl 3, .inl a, .inl ((a / 3) * (b % 3))], mW C (S, P, K, F, B, G, E), 0, 0)) rfl ?_
      refine m_rem rfl (by omega) (by omega) (by omega) (by omega) ?_
      refine m_run 2 (ps' := (73, [some (.inr (.inl 13)), some (.inl a), some (.inl b), some (.inl n), none, none], [.inl 3, .inl b, .inl (a % 3), .inl ((a / 3) * (b % 3))], mW C (S, P, K, F, B, G, E), 0, 0)) rfl ?_
      refine m_div rfl (by omega) (by omega) (by omega) (by omega) ?_
      refine m_run 5 (ps' := (80, [some (.inr (.inl 13)), some (.inl a), some (.inl b), some (.inl n), some (.inl (((a / 3) * (b % 3)) + ((a % 3) * (b / 3)))), none], [.inl 3, .inl a], mW C (S, P, K, F, B, G, E), 0, 0)) rfl ?_
      refine m_rem rfl (by omega) (by omega) (by omega) (by omega) ?_
      refine m_run 2 (ps' := (83, [some (.inr (.inl 13)), some (.inl a), some (.inl b), some (.inl n), some (.inl (((a / 3) * (b % 3)) + ((a % 3) * (b / 3)))), none], [.inl 3, .inl b, .inl (a % 3)], mW C (S, P, K, F, B, G, E), 0, 0)) rfl ?_
      refine m_rem rfl (by omega) (by omega) (by omega) (by omega) ?_
      refine m_run 4 (ps' := (88, [some (.inr (.inl 13)), some (.inl a), some (.inl b), some (.inl n), some (.inl (((a / 3) * (b % 3)) + ((a % 3) * (b / 3)))), none], [.inl 3, .inl a, .inl 2, .inl ((a % 3) * (b % 3))], mW C (S, P, K, F, B, G, E), 0, 0)) rfl ?_
      refine m_div rfl (by omega) (by omega) (by omega) (by omega) ?_
      refine m_run 3 (ps' := (92, [some (.inr (.inl 13)), some (.inl a), some (.inl b), some (.inl n), some (.inl (((a / 3) * (b % 3)) + ((a % 3) * (b / 3)))), none], [.inl 3, .inl b, .inl (2 * (a / 3)), .inl ((a % 3) * (b % 3))], mW C (S, P, K, F, B, G, E), 0, 0)) rfl ?_
      refine m_div rfl (by omega) (by omega) (by omega) (by omega) ?_
      refine m_run 6 (ps' := (101, [some (.inr (.inl 13)), some (.inl a), some (.inl b), some (.inl n), some (.inl (((a / 3) * (b % 3)) + ((a % 3) * (b / 3)))), some (.inl (((a % 3) * (b % 3)) + ((2 * (a / 3)) * (b / 3))))], [.inl 3, .inl (((a / 3) * (b % 3)) + ((a % 3) * (b / 3))), .inl 3], mW C (S, P, K, F, B, G, E), 0, 0)) rfl ?_
      refine m_rem rfl (by omega) (by omega) (by omega) (by omega) ?_
      refine m_run 3 (ps' := (106, [some (.inr (.inl 13)), some (.inl a), some (.inl b), some (.inl n), some (.inl (((a / 3) * (b % 3)) + ((a % 3) * (b / 3)))), some (.inl (((a % 3) * (b % 3)) + ((2 * (a / 3)) * (b / 3))))], [.inl 3, .inl (((a % 3) * (b % 3)) + ((2 * (a / 3)) * (b / 3))), .inl (3 * ((((a / 3) * (b % 3)) + ((a % 3) * (b / 3))) % 3))], mW C (S, P, K, F, B, G, E), 0, 0)) rfl ?_
      refine m_rem rfl (by omega) (by omega) (by omega) (by omega) ?_
      refine m_run 1 (ps' := (108, [some (.inr (.inl 13)), some (.inl a), some (.inl b), some (.inl n), some (.inl (((a / 3) * (b % 3)) + ((a % 3) * (b / 3)))), some (.inl (((a % 3) * (b % 3)) + ((2 * (a / 3)) * (b / 3))))], [.inl ((3 * ((((a / 3) * (b % 3)) + ((a % 3) * (b / 3))) % 3)) + ((((a % 3) * (b % 3)) + ((2 * (a / 3)) * (b / 3))) % 3))], mW C (S, P, K, F, B, G, E), 0, 0)) rfl ?_
      exact m_ret1 rfl (Or.inl rfl) rfl (m_Vi (by rw [← fpM hn ha ha2 hb hb2]; (repeat' split) <;> first | rfl | (exfalso; omega) | omega))
  · replace zc1 : n = 4 := Decidable.not_not.mp zc1
    refine m_run 1 (ps' := (13, [some (.inr (.inl 13)), some (.inl a), some (.inl b), some (.inl n), none, none], [.inl a], mW C (S, P, K, F, B, G, E), 0, 0)) rfl ?_
    refine m_if rfl ⟨by omega, by omega⟩ (fun (zc2 : a = 0) => ?_) (fun (zc2 : ¬ a = 0) => ?_)
    · refine m_run 2 (ps' := (54, [some (.inr (.inl 13)), some (.inl a), some (.inl b), some (.inl n), none, none], [.inl 0], mW C (S, P, K, F, B, G, E), 0, 0)) rfl ?_
      exact m_ret1 rfl (Or.inl rfl) rfl (m_Vi (by rw [← fpM hn ha ha2 hb hb2]; (repeat' split) <;> first | rfl | (exfalso; omega) | omega))
    · refine m_run 1 (ps' := (17, [some (.inr (.inl 13)), some (.inl a), some (.inl b), some (.inl n), none, none], [.inl b], mW C (S, P, K, F, B, G, E), 0, 0)) rfl ?_
      refine m_if rfl ⟨by omega, by omega⟩ (fun (zc3 : ¬ b = 0) => ?_) (fun (zc3 : ¬ ¬ b = 0) => ?_)
      · refine m_run 2 (ps' := (26, [some (.inr (.inl 13)), some (.inl a), some (.inl b), some (.inl n), none, none], [.inl 1, .inl a], mW C (S, P, K, F, B, G, E), 0, 0)) rfl ?_
        refine m_icmp rfl ⟨by omega, by omega⟩ ⟨by omega, by omega⟩ (fun (zc4 : ¬ a = 1) => ?_) (fun (zc4 : ¬ ¬ a = 1) => ?_)
        · refine m_run 2 (ps' := (35, [some (.inr (.inl 13)), some (.inl a), some (.inl b), some (.inl n), none, none], [.inl 1, .inl b], mW C (S, P, K, F, B, G, E), 0, 0)) rfl ?_
          refine m_icmp rfl ⟨by omega, by omega⟩ ⟨by omega, by omega⟩ (fun (zc5 : ¬ b = 1) => ?_) (fun (zc5 : ¬ ¬ b = 1) => ?_)
          · refine m_run 2 (ps' := (44, [some (.inr (.inl 13)), some (.inl a), some (.inl b), some (.inl n), none, none], [.inl b, .inl a], mW C (S, P, K, F, B, G, E), 0, 0)) rfl ?_
            refine m_icmp rfl ⟨by omega, by omega⟩ ⟨by omega, by omega⟩ (fun (zc6 : ¬ a = b) => ?_) (fun (zc6 : ¬ ¬ a = b) => ?_)
            · refine m_run 1 (ps' := (54, [some (.inr (.inl 13)), some (.inl a), some (.inl b), some (.inl n), none, none], [.inl 1], mW C (S, P, K, F, B, G, E), 0, 0)) rfl ?_
              exact m_ret1 rfl (Or.inl rfl) rfl (m_Vi (by rw [← fpM hn ha ha2 hb hb2]; (repeat' split) <;> first | rfl | (exfalso; omega) | omega))
            · replace zc6 : a = b := Decidable.not_not.mp zc6
              refine m_run 4 (ps' := (54, [some (.inr (.inl 13)), some (.inl a), some (.inl b), some (.inl n), none, none], [.inl (5 - a)], mW C (S, P, K, F, B, G, E), 0, 0)) rfl ?_
              exact m_ret1 rfl (Or.inl rfl) rfl (m_Vi (by rw [← fpM hn ha ha2 hb hb2]; (repeat' split) <;> first | rfl | (exfalso; omega) | omega))
          · replace zc5 : b = 1 := Decidable.not_not.mp zc5
            refine m_run 2 (ps' := (54, [some (.inr (.inl 13)), some (.inl a), some (.inl b), some (.inl n), none, none], [.inl a], mW C (S, P, K, F, B, G, E), 0, 0)) rfl ?_
            exact m_ret1 rfl (Or.inl rfl) rfl (m_Vi (by rw [← fpM hn ha ha2 hb hb2]; (repeat' split) <;> first | rfl | (exfalso; omega) | omega))
        · replace zc4 : a = 1 := Decidable.not_not.mp zc4
          refine m_run 2 (ps' := (54, [some (.inr (.inl 13)), some (.inl a), some (.inl b), some (.inl n), none, none], [.inl b], mW C (S, P, K, F, B, G, E), 0, 0)) rfl ?_
          exact m_ret1 rfl (Or.inl rfl) rfl (m_Vi (by rw [← fpM hn ha ha2 hb hb2]; (repeat' split) <;> first | rfl | (exfalso; omega) | omega))
      · replace zc3 : b = 0 := Decidable.not_not.mp zc3
        refine m_run 2 (ps' := (54, [some (.inr (.inl 13)), some (.inl a), some (.inl b), some (.inl n), none, none], [.inl 0], mW C (S, P, K, F, B, G, E), 0, 0)) rfl ?_
        exact m_ret1 rfl (Or.inl rfl) rfl (m_Vi (by rw [← fpM hn ha ha2 hb hb2]; (repeat' split) <;> first | rfl | (exfalso; omega) | omega))
set_option maxHeartbeats 4000000 in
set_option maxRecDepth 100000 in
theorem d_times {X : Nat × Nat × (Nat → Int32)} {C : CS} {n : Int} {S : Int → Int} {P K : TS} {F : Int × Int × Int} {B : (Nat → Int64) × (Nat → Int64)} {G : Int → Int} {E : Int × Int} {tb : Int → Int → Int} {a b : Int} (hR : repM n S tb) (ha : 0 ≤ a) (ha2 : a < n) (hb : 0 ≤ b) (hb2 : b < n) : m_Run X 94 [.inr (.inl 13), .inl a, .inl b] (mW C (S, P, K, F, B, G, E)) (m_V (tb a b) (mW C (S, P, K, F, B, G, E))) := by
  have hn := hR.1
  have hl := okN_lo hn
  have hs0 := hR.2.1
  show m_Sem X 94 (0, [some (.inr (.inl 13)), some (.inl a), some (.inl b)], [], mW C (S, P, K, F, B, G, E), 0, 0) _
  refine m_run 9 (ps' := (12, [some (.inr (.inl 13)), some (.inl a), some (.inl b)], [.inl ((1 + (9 * a)) + b), .inr (.inl 14)], mW C (S, P, K, F, B, G, E), 0, 0)) rfl ?_
  refine m_iald rfl rfl (by omega) (by omega) (by decide) ?_
  exact m_ret1 rfl (Or.inl rfl) rfl (m_Vi (hR.2.2 a b ha ha2 hb hb2).1)
set_option maxHeartbeats 4000000 in
set_option maxRecDepth 100000 in
theorem d_raw {X : Nat × Nat × (Nat → Int32)} {C : CS} {S : Int → Int} {P K : TS} {F : Int × Int × Int} {B : (Nat → Int64) × (Nat → Int64)} {G : Int → Int} {E : Int × Int} {a b : Int} (h1 : 0 ≤ 1 + 9 * a + b) (h2 : 1 + 9 * a + b < 82) : m_Run X 94 [.inr (.inl 13), .inl a, .inl b] (mW C (S, P, K, F, B, G, E)) (m_V (S (1 + 9 * a + b)) (mW C (S, P, K, F, B, G, E))) := by
  show m_Sem X 94 (0, [some (.inr (.inl 13)), some (.inl a), some (.inl b)], [], mW C (S, P, K, F, B, G, E), 0, 0) _
  refine m_run 9 (ps' := (12, [some (.inr (.inl 13)), some (.inl a), some (.inl b)], [.inl ((1 + (9 * a)) + b), .inr (.inl 14)], mW C (S, P, K, F, B, G, E), 0, 0)) rfl ?_
  refine m_iald rfl rfl (by omega) (by omega) (by decide) ?_
  exact m_ret1 rfl (Or.inl rfl) rfl (m_Vi rfl)
set_option maxHeartbeats 4000000 in
set_option maxRecDepth 100000 in
theorem d_set {X : Nat × Nat × (Nat → Int32)} {C : CS} {S : Int → Int} {P K : TS} {F : Int × Int × Int} {B : (Nat → Int64) × (Nat → Int64)} {G : Int → Int} {E : Int × Int} {a b r : Int} (h1 : 0 ≤ 1 + 9 * a + b) (h2 : 1 + 9 * a + b < 82) : m_Run X 95 [.inr (.inl 13), .inl a, .inl b, .inl r] (mW C (S, P, K, F, B, G, E)) (m_U (mW C ((m_up S (1 + 9 * a + b) r), P, K, F, B, G, E))) := by
  show m_Sem X 95 (0, [some (.inr (.inl 13)), some (.inl a), some (.inl b), some (.inl r)], [], mW C (S, P, K, F, B, G, E), 0, 0) _
  refine m_run 10 (ps' := (13, [some (.inr (.inl 13)), some (.inl a), some (.inl b), some (.inl r)], [.inl r, .inl ((1 + (9 * a)) + b), .inr (.inl 14)], mW C (S, P, K, F, B, G, E), 0, 0)) rfl ?_
  refine m_iast rfl rfl (by omega) (by omega) (by decide) ?_
  show m_Sem X 95 (14, [some (.inr (.inl 13)), some (.inl a), some (.inl b), some (.inl r)], [], mW C ((m_up S ((1 + (9 * a)) + b) r), P, K, F, B, G, E), 0, 0) _
  exact m_ret0 rfl rfl rfl (⟨rfl, rfl⟩)
/-- rows below a are laid, of row a the places below b; 0 elsewhere -/
def layV (n a b : Int) : Int := if a < n ∧ b < n then fpS n a b else 0
def fillM (n : Int) (S : Int → Int) (a b : Int) : Prop := S 0 = n ∧ ∀ a' b', 0 ≤ a' → 0 ≤ b' → b' < 9 → (a' < a ∨ (a' = a ∧ b' < b)) → S (1 + 9 * a' + b') = layV n a' b'
theorem fillM_s {n : Int} {S : Int → Int} {a b v : Int} (h : fillM n S a b) (h0 : 0 ≤ a) (h1 : 0 ≤ b) (h2 : b < 9) (hv : v = layV n a b) : fillM n (m_up S (1 + 9 * a + b) v) a (b + 1) := by
  refine ⟨by rw [m_up_n S v (by omega)]; exact h.1, fun a' b' g1 g2 g3 g4 => ?_⟩
  by_cases he : 1 + 9 * a' + b' = 1 + 9 * a + b
  · rw [he, m_up_s, hv, show a' = a by omega, show b' = b by omega]
  · rw [m_up_n S v he]
    exact h.2 a' b' g1 g2 g3 (by omega)
theorem fillM_r {n : Int} {S : Int → Int} {a : Int} (h : fillM n S a 9) : fillM n S (a + 1) 0 := ⟨h.1, fun a' b' g1 g2 g3 g4 => h.2 a' b' g1 g2 g3 (by omega)⟩
set_option maxHeartbeats 4000000 in
set_option maxRecDepth 100000 in
theorem e_layI {X : Nat × Nat × (Nat → Int32)} {C : CS} {n : Int} {P K : TS} {F : Int × Int × Int} {B : (Nat → Int64) × (Nat → Int64)} {G : Int → Int} {E : Int × Int} {a : Int} {Q : Option mPV → mPW → Prop} (hn : okN n) (ha : 0 ≤ a) (ha2 : a < 9) (K9 : ∀ S : Int → Int, fillM n S (a + 1) 0 → m_Sem X 96 (2, [some (.inr (.inl 13)), some (.inl (a + 1)), none], [], mW C (S, P, K, F, B, G, E), 0, 0) Q) : ∀ b : Int, 0 ≤ b → b ≤ 9 → ∀ (S : Int → Int) (hf : fillM n S a b), m_Sem X 96 (10, [some (.inr (.inl 13)), some (.inl a), some (.inl b)], [], mW C (S, P, K, F, B, G, E), 0, 0) (Q) := by
  have hl := okN_lo hn
  refine m_down 0 9 ?_ ?_
  · intro S hf
    show m_Sem X 96 (10, [some (.inr (.inl 13)), some (.inl a), some (.inl 9)], [], mW C (S, P, K, F, B, G, E), 0, 0) _
    refine m_run 2 (ps' := (13, [some (.inr (.inl 13)), some (.inl a), some (.inl 9)], [.inl 9, .inl 9], mW C (S, P, K, F, B, G, E), 0, 0)) rfl ?_
    refine m_icmp rfl ⟨by omega, by omega⟩ ⟨by omega, by omega⟩ (fun (zc1 : 9 ≤ 9) => ?_) (fun (zc1 : ¬ 9 ≤ 9) => absurd zc1 (not_not_intro (by omega)))
    refine m_run 2 (ps' := (2, [some (.inr (.inl 13)), some (.inl (a + 1)), some (.inl 9)], [], mW C (S, P, K, F, B, G, E), 0, 0)) rfl ?_
    refine m_weak [some (.inr (.inl 13)), some (.inl (a + 1)), none] ⟨rfl, ⟨rfl, trivial⟩⟩ ?_
    exact K9 S (fillM_r hf)
  · intro b hi1 hi2 ih S hf
    refine m_run 2 (ps' := (13, [some (.inr (.inl 13)), some (.inl a), some (.inl b)], [.inl 9, .inl b], mW C (S, P, K, F, B, G, E), 0, 0)) rfl ?_
    refine m_icmp rfl ⟨by omega, by omega⟩ ⟨by omega, by omega⟩ (fun (zc1 : 9 ≤ b) => absurd zc1 (by omega)) (fun (zc1 : ¬ 9 ≤ b) => ?_)
    refine m_run 7 (ps' := (25, [some (.inr (.inl 13)), some (.inl a), some (.inl b)], [.inl 0, .inr (.inl 14), .inl a, .inl b, .inl a, .inr (.inl 13)], mW C (S, P, K, F, B, G, E), 0, 0)) rfl ?_
    refine m_iald rfl rfl (by omega) (by omega) (by decide) ?_
    show m_Sem X 96 (26, [some (.inr (.inl 13)), some (.inl a), some (.inl b)], [.inl (S 0), .inl a, .inl b, .inl a, .inr (.inl 13)], mW C (S, P, K, F, B, G, E), 0, 0) _
    rw [hf.1]
    refine m_icmp rfl ⟨by omega, by omega⟩ ⟨by omega, by omega⟩ (fun (zc2 : n ≤ a) => ?_) (fun (zc2 : ¬ n ≤ a) => ?_)
    · refine m_run 1 (ps' := (49, [some (.inr (.inl 13)), some (.inl a), some (.inl b)], [.inl 0, .inl b, .inl a, .inr (.inl 13)], mW C (S, P, K, F, B, G, E), 0, 0)) rfl ?_
      refine m_callVU [.inl a, .inl b, .inl 0] [] rfl rfl ⟨_, rfl, rfl⟩ rfl rfl (d_set (S := S) (a := a) (b := b) (r := 0) (by omega) (by omega)) ?_
      show m_Sem X 96 (52, [some (.inr (.inl 13)), some (.inl a), some (.inl b)], [], mW C ((m_up S (1 + 9 * a + b) 0), P, K, F, B, G, E), 0, 0) _
      refine m_run 2 (ps' := (10, [some (.inr (.inl 13)), some (.inl a), some (.inl (b + 1))], [], mW C ((m_up S (1 + 9 * a + b) 0), P, K, F, B, G, E), 0, 0)) rfl ?_
      refine m_weak [some (.inr (.inl 13)), some (.inl a), some (.inl (b + 1))] ⟨rfl, ⟨rfl, ⟨rfl, trivial⟩⟩⟩ ?_
      exact ih _ (fillM_s hf ha hi1 hi2 (by unfold layV; first | rw [if_pos (by omega)] | rw [if_neg (by omega)]))
    · refine m_run 4 (ps' := (35, [some (.inr (.inl 13)), some (.inl a), some (.inl b)], [.inl 0, .inr (.inl 14), .inl b, .inl b, .inl a, .inr (.inl 13)], mW C (S, P, K, F, B, G, E), 0, 0)) rfl ?_
      refine m_iald rfl rfl (by omega) (by omega) (by decide) ?_
      show m_Sem X 96 (36, [some (.inr (.inl 13)), some (.inl a), some (.inl b)], [.inl (S 0), .inl b, .inl b, .inl a, .inr (.inl 13)], mW C (S, P, K, F, B, G, E), 0, 0) _
      rw [hf.1]
      refine m_icmp rfl ⟨by omega, by omega⟩ ⟨by omega, by omega⟩ (fun (zc3 : n ≤ b) => ?_) (fun (zc3 : ¬ n ≤ b) => ?_)
      · refine m_run 1 (ps' := (49, [some (.inr (.inl 13)), some (.inl a), some (.inl b)], [.inl 0, .inl b, .inl a, .inr (.inl 13)], mW C (S, P, K, F, B, G, E), 0, 0)) rfl ?_
        refine m_callVU [.inl a, .inl b, .inl 0] [] rfl rfl ⟨_, rfl, rfl⟩ rfl rfl (d_set (S := S) (a := a) (b := b) (r := 0) (by omega) (by omega)) ?_
        show m_Sem X 96 (52, [some (.inr (.inl 13)), some (.inl a), some (.inl b)], [], mW C ((m_up S (1 + 9 * a + b) 0), P, K, F, B, G, E), 0, 0) _
        refine m_run 2 (ps' := (10, [some (.inr (.inl 13)), some (.inl a), some (.inl (b + 1))], [], mW C ((m_up S (1 + 9 * a + b) 0), P, K, F, B, G, E), 0, 0)) rfl ?_
        refine m_weak [some (.inr (.inl 13)), some (.inl a), some (.inl (b + 1))] ⟨rfl, ⟨rfl, ⟨rfl, trivial⟩⟩⟩ ?_
        exact ih _ (fillM_s hf ha hi1 hi2 (by unfold layV; first | rw [if_pos (by omega)] | rw [if_neg (by omega)]))
      · refine m_run 3 (ps' := (42, [some (.inr (.inl 13)), some (.inl a), some (.inl b)], [.inl b, .inl a, .inr (.inl 13), .inl b, .inl a, .inr (.inl 13)], mW C (S, P, K, F, B, G, E), 0, 0)) rfl ?_
        refine m_callVF [.inl a, .inl b] [.inl b, .inl a, .inr (.inl 13)] rfl rfl ⟨_, rfl, rfl⟩ rfl rfl (d_fp (a := a) (b := b) hn hf.1 (by omega) (by omega) (by omega) (by omega)) ?_
        have zt1 := fpS_in (n := n) (a := a) (b := b) hn (by omega) (by omega) (by omega) (by omega)
        show m_Sem X 96 (45, [some (.inr (.inl 13)), some (.inl a), some (.inl b)], [.inl (fpS n a b), .inl b, .inl a, .inr (.inl 13)], mW C (S, P, K, F, B, G, E), 0, 0) _
        refine m_run 1 (ps' := (49, [some (.inr (.inl 13)), some (.inl a), some (.inl b)], [.inl (fpS n a b), .inl b, .inl a, .inr (.inl 13)], mW C (S, P, K, F, B, G, E), 0, 0)) rfl ?_
        refine m_callVU [.inl a, .inl b, .inl (fpS n a b)] [] rfl rfl ⟨_, rfl, rfl⟩ rfl rfl (d_set (S := S) (a := a) (b := b) (r := (fpS n a b)) (by omega) (by omega)) ?_
        show m_Sem X 96 (52, [some (.inr (.inl 13)), some (.inl a), some (.inl b)], [], mW C ((m_up S (1 + 9 * a + b) (fpS n a b)), P, K, F, B, G, E), 0, 0) _
        refine m_run 2 (ps' := (10, [some (.inr (.inl 13)), some (.inl a), some (.inl (b + 1))], [], mW C ((m_up S (1 + 9 * a + b) (fpS n a b)), P, K, F, B, G, E), 0, 0)) rfl ?_
        refine m_weak [some (.inr (.inl 13)), some (.inl a), some (.inl (b + 1))] ⟨rfl, ⟨rfl, ⟨rfl, trivial⟩⟩⟩ ?_
        exact ih _ (fillM_s hf ha hi1 hi2 (by unfold layV; first | rw [if_pos (by omega)] | rw [if_neg (by omega)]))
set_option maxHeartbeats 4000000 in
set_option maxRecDepth 100000 in
theorem e_layO {X : Nat × Nat × (Nat → Int32)} {C : CS} {n : Int} {P K : TS} {F : Int × Int × Int} {B : (Nat → Int64) × (Nat → Int64)} {G : Int → Int} {E : Int × Int} {Q : Option mPV → mPW → Prop} (hn : okN n) (K9 : ∀ S : Int → Int, fillM n S 9 0 → Q none (mW C (S, P, K, F, B, G, E))) : ∀ a : Int, 0 ≤ a → a ≤ 9 → ∀ (S : Int → Int) (hf : fillM n S a 0), m_Sem X 96 (2, [some (.inr (.inl 13)), some (.inl a), none], [], mW C (S, P, K, F, B, G, E), 0, 0) (Q) := by
  have hl := okN_lo hn
  refine m_down 0 9 ?_ ?_
  · intro S hf
    show m_Sem X 96 (2, [some (.inr (.inl 13)), some (.inl 9), none], [], mW C (S, P, K, F, B, G, E), 0, 0) _
    refine m_run 2 (ps' := (5, [some (.inr (.inl 13)), some (.inl 9), none], [.inl 9, .inl 9], mW C (S, P, K, F, B, G, E), 0, 0)) rfl ?_
    refine m_icmp rfl ⟨by omega, by omega⟩ ⟨by omega, by omega⟩ (fun (zc1 : 9 ≤ 9) => ?_) (fun (zc1 : ¬ 9 ≤ 9) => absurd zc1 (not_not_intro (by omega)))
    exact m_ret0 rfl rfl rfl (K9 S hf)
  · intro a hi1 hi2 ih S hf
    refine m_run 2 (ps' := (5, [some (.inr (.inl 13)), some (.inl a), none], [.inl 9, .inl a], mW C (S, P, K, F, B, G, E), 0, 0)) rfl ?_
    refine m_icmp rfl ⟨by omega, by omega⟩ ⟨by omega, by omega⟩ (fun (zc1 : 9 ≤ a) => absurd zc1 (by omega)) (fun (zc1 : ¬ 9 ≤ a) => ?_)
    refine m_run 2 (ps' := (10, [some (.inr (.inl 13)), some (.inl a), some (.inl 0)], [], mW C (S, P, K, F, B, G, E), 0, 0)) rfl ?_
    refine m_weak [some (.inr (.inl 13)), some (.inl a), some (.inl 0)] ⟨rfl, ⟨rfl, ⟨rfl, trivial⟩⟩⟩ ?_
    exact e_layI hn hi1 hi2 ih 0 (by omega) (by omega) S hf
set_option maxHeartbeats 4000000 in
set_option maxRecDepth 100000 in
theorem d_lays {X : Nat × Nat × (Nat → Int32)} {C : CS} {n : Int} {S : Int → Int} {P K : TS} {F : Int × Int × Int} {B : (Nat → Int64) × (Nat → Int64)} {G : Int → Int} {E : Int × Int} (hn : okN n) (hs0 : S 0 = n) : m_Run X 96 [.inr (.inl 13)] (mW C (S, P, K, F, B, G, E)) (fun r w => r = none ∧ ∃ S2, w = mW C (S2, P, K, F, B, G, E) ∧ fillM n S2 9 0) := by
  show m_Sem X 96 (0, [some (.inr (.inl 13)), none, none], [], mW C (S, P, K, F, B, G, E), 0, 0) _
  refine m_run 2 (ps' := (2, [some (.inr (.inl 13)), some (.inl 0), none], [], mW C (S, P, K, F, B, G, E), 0, 0)) rfl ?_
  refine m_weak [some (.inr (.inl 13)), some (.inl 0), none] ⟨rfl, ⟨rfl, trivial⟩⟩ ?_
  exact e_layO hn (fun S2 hf => ⟨rfl, S2, rfl, hf⟩) 0 (by omega) (by omega) S ⟨hs0, fun a b h1 h2 h3 h4 => absurd h4 (by omega)⟩
