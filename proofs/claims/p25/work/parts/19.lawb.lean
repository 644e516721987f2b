/-! The law's own laws: differences, what holds where, the first witness. -/
set_option maxHeartbeats 4000000 in
set_option maxRecDepth 100000 in
theorem a_un2 {X : Nat × Nat × (Nat → Int32)} {C : CS} {g : Int → Int} {f : Nat → Int64} {J : mPW} {n : Int} {tb : Int → Int → Int} {a b : Int} {r : Bool} {s : Nat} {v : Int} (hg : g 0 = n) (hn : okN n) (hs : s < 512) (hv : 0 ≤ v) (hv2 : v ≤ 9) : ∀ x : Int, 0 ≤ x → x ≤ 9 → ∀ (u : Int) (hu0 : 0 ≤ u) (hu : u + sumF (fun v => bI (s.testBit v.toNat)) (9 - x).toNat x = v), m_Sem X 55 (77, [some (.inr (.inl 13)), some (.inr (.inl 14)), some (.inl a), some (.inl b), some (.inl (bI r)), some (.inl (s : Int)), some (.inl u), some (.inl x)], [], mW C (.inl (0, 1, .inl g) :: .inl (2, 9, .inr f) :: J), 0, 0) (m_V (bI (decide (v = n))) (mW C (.inl (0, 1, .inl g) :: .inl (2, 9, .inr f) :: J))) := by
  have hl := okN_lo hn
  refine m_down 0 9 ?_ ?_
  · intro u hu0 hu
    rw [sum_end] at hu
    have hu : u = v := by omega
    subst hu
    show m_Sem X 55 (77, [some (.inr (.inl 13)), some (.inr (.inl 14)), some (.inl a), some (.inl b), some (.inl (bI r)), some (.inl (s : Int)), some (.inl u), some (.inl 9)], [], mW C (.inl (0, 1, .inl g) :: .inl (2, 9, .inr f) :: J), 0, 0) _
    refine m_run 2 (ps' := (81, [some (.inr (.inl 13)), some (.inr (.inl 14)), some (.inl a), some (.inl b), some (.inl (bI r)), some (.inl (s : Int)), some (.inl u), some (.inl 9)], [.inl 9, .inl 9], mW C (.inl (0, 1, .inl g) :: .inl (2, 9, .inr f) :: J), 0, 0)) rfl ?_
    refine m_icmp rfl ⟨by omega, by omega⟩ ⟨by omega, by omega⟩ (fun (zc1 : 9 ≤ 9) => ?_) (fun (zc1 : ¬ 9 ≤ 9) => absurd zc1 (not_not_intro (by omega)))
    refine m_run 3 (ps' := (106, [some (.inr (.inl 13)), some (.inr (.inl 14)), some (.inl a), some (.inl b), some (.inl (bI r)), some (.inl (s : Int)), some (.inl u), some (.inl 9)], [.inl 0, .inr (.inl 13), .inl u], mW C (.inl (0, 1, .inl g) :: .inl (2, 9, .inr f) :: J), 0, 0)) rfl ?_
    refine m_iald rfl rfl (by omega) (by omega) (by decide) ?_
    show m_Sem X 55 (107, [some (.inr (.inl 13)), some (.inr (.inl 14)), some (.inl a), some (.inl b), some (.inl (bI r)), some (.inl (s : Int)), some (.inl u), some (.inl 9)], [.inl (g 0), .inl u], mW C (.inl (0, 1, .inl g) :: .inl (2, 9, .inr f) :: J), 0, 0) _
    rw [hg]
    refine m_icmp rfl ⟨by omega, by omega⟩ ⟨by omega, by omega⟩ (fun (zc2 : ¬ u = n) => ?_) (fun (zc2 : ¬ ¬ u = n) => ?_)
    · refine m_run 1 (ps' := (115, [some (.inr (.inl 13)), some (.inr (.inl 14)), some (.inl a), some (.inl b), some (.inl (bI r)), some (.inl (s : Int)), some (.inl u), some (.inl 9)], [.inl 0], mW C (.inl (0, 1, .inl g) :: .inl (2, 9, .inr f) :: J), 0, 0)) rfl ?_
      exact m_ret1 rfl (Or.inr ⟨rfl, Or.inl rfl⟩) rfl (m_Vb (b0 (decide_eq_false zc2)))
    · replace zc2 : u = n := Decidable.not_not.mp zc2
      refine m_run 2 (ps' := (115, [some (.inr (.inl 13)), some (.inr (.inl 14)), some (.inl a), some (.inl b), some (.inl (bI r)), some (.inl (s : Int)), some (.inl u), some (.inl 9)], [.inl 1], mW C (.inl (0, 1, .inl g) :: .inl (2, 9, .inr f) :: J), 0, 0)) rfl ?_
      exact m_ret1 rfl (Or.inr ⟨rfl, Or.inr rfl⟩) rfl (m_Vb (b1 (decide_eq_true zc2)))
  · intro x hi1 hi2 ih u hu0 hu
    rw [sum_step hi2] at hu
    refine m_run 2 (ps' := (81, [some (.inr (.inl 13)), some (.inr (.inl 14)), some (.inl a), some (.inl b), some (.inl (bI r)), some (.inl (s : Int)), some (.inl u), some (.inl x)], [.inl 9, .inl x], mW C (.inl (0, 1, .inl g) :: .inl (2, 9, .inr f) :: J), 0, 0)) rfl ?_
    refine m_icmp rfl ⟨by omega, by omega⟩ ⟨by omega, by omega⟩ (fun (zc1 : 9 ≤ x) => absurd zc1 (by omega)) (fun (zc1 : ¬ 9 ≤ x) => ?_)
    refine m_run 10 (ps' := (77, [some (.inr (.inl 13)), some (.inr (.inl 14)), some (.inl a), some (.inl b), some (.inl (bI r)), some (.inl (s : Int)), some (.inl (u + (Int32.ofInt ((Int32.ofInt (s : Int) >>> (Int32.ofInt x &&& 31)).toInt) &&& Int32.ofInt 1).toInt)), some (.inl (x + 1))], [], mW C (.inl (0, 1, .inl g) :: .inl (2, 9, .inr f) :: J), 0, 0)) rfl ?_
    refine m_weak [some (.inr (.inl 13)), some (.inr (.inl 14)), some (.inl a), some (.inl b), some (.inl (bI r)), some (.inl (s : Int)), some (.inl (u + (Int32.ofInt ((Int32.ofInt (s : Int) >>> (Int32.ofInt x &&& 31)).toInt) &&& Int32.ofInt 1).toInt)), some (.inl (x + 1))] ⟨rfl, ⟨rfl, ⟨rfl, ⟨rfl, ⟨rfl, ⟨rfl, ⟨rfl, ⟨rfl, trivial⟩⟩⟩⟩⟩⟩⟩⟩ ?_
    rw [bit_at_i hs hi1 hi2]
    have h8 := bI_in (s.testBit x.toNat)
    exact ih _ (by omega) (by rw [← hu]; omega)
set_option maxHeartbeats 4000000 in
set_option maxRecDepth 100000 in
theorem a_un1 {X : Nat × Nat × (Nat → Int32)} {C : CS} {g : Int → Int} {f : Nat → Int64} {J : mPW} {n : Int} {tb : Int → Int → Int} {a b : Int} {r : Bool} {v : Int} (hg : g 0 = n) (hL : repL n f tb) (ha : 0 ≤ a) (ha2 : a < n) (hb : 0 ≤ b) (hb2 : b < n) : ∀ x : Int, 0 ≤ x → x ≤ n → ∀ (s : Nat) (hs : s < 512) (hu : popc (setK (difF n tb r a b) (n - x).toNat x s) = v), m_Sem X 55 (9, [some (.inr (.inl 13)), some (.inr (.inl 14)), some (.inl a), some (.inl b), some (.inl (bI r)), some (.inl (s : Int)), some (.inl 0), some (.inl x)], [], mW C (.inl (0, 1, .inl g) :: .inl (2, 9, .inr f) :: J), 0, 0) (m_V (bI (decide (v = n))) (mW C (.inl (0, 1, .inl g) :: .inl (2, 9, .inr f) :: J))) := by
  have hn := hL.1
  have hl := okN_lo hn
  refine m_down 0 n ?_ ?_
  · intro s hs hu
    rw [set_end] at hu
    show m_Sem X 55 (9, [some (.inr (.inl 13)), some (.inr (.inl 14)), some (.inl a), some (.inl b), some (.inl (bI r)), some (.inl (s : Int)), some (.inl 0), some (.inl n)], [], mW C (.inl (0, 1, .inl g) :: .inl (2, 9, .inr f) :: J), 0, 0) _
    refine m_run 3 (ps' := (13, [some (.inr (.inl 13)), some (.inr (.inl 14)), some (.inl a), some (.inl b), some (.inl (bI r)), some (.inl (s : Int)), some (.inl 0), some (.inl n)], [.inl 0, .inr (.inl 13), .inl n], mW C (.inl (0, 1, .inl g) :: .inl (2, 9, .inr f) :: J), 0, 0)) rfl ?_
    refine m_iald rfl rfl (by omega) (by omega) (by decide) ?_
    show m_Sem X 55 (14, [some (.inr (.inl 13)), some (.inr (.inl 14)), some (.inl a), some (.inl b), some (.inl (bI r)), some (.inl (s : Int)), some (.inl 0), some (.inl n)], [.inl (g 0), .inl n], mW C (.inl (0, 1, .inl g) :: .inl (2, 9, .inr f) :: J), 0, 0) _
    rw [hg]
    refine m_icmp rfl ⟨by omega, by omega⟩ ⟨by omega, by omega⟩ (fun (zc1 : n ≤ n) => ?_) (fun (zc1 : ¬ n ≤ n) => absurd zc1 (not_not_intro (by omega)))
    refine m_run 2 (ps' := (77, [some (.inr (.inl 13)), some (.inr (.inl 14)), some (.inl a), some (.inl b), some (.inl (bI r)), some (.inl (s : Int)), some (.inl 0), some (.inl 0)], [], mW C (.inl (0, 1, .inl g) :: .inl (2, 9, .inr f) :: J), 0, 0)) rfl ?_
    refine m_weak [some (.inr (.inl 13)), some (.inr (.inl 14)), some (.inl a), some (.inl b), some (.inl (bI r)), some (.inl (s : Int)), some (.inl 0), some (.inl 0)] ⟨rfl, ⟨rfl, ⟨rfl, ⟨rfl, ⟨rfl, ⟨rfl, ⟨rfl, ⟨rfl, trivial⟩⟩⟩⟩⟩⟩⟩⟩ ?_
    have h8 := popc_in s
    exact a_un2 (tb := tb) hg hn hs (by omega) (by omega) 0 (by omega) (by omega) 0 (by omega) (by rw [← hu, Int.zero_add]; rfl)
  · intro x hi1 hi2 ih s hs hu
    rw [set_step hi2] at hu
    refine m_run 3 (ps' := (13, [some (.inr (.inl 13)), some (.inr (.inl 14)), some (.inl a), some (.inl b), some (.inl (bI r)), some (.inl (s : Int)), some (.inl 0), some (.inl x)], [.inl 0, .inr (.inl 13), .inl x], mW C (.inl (0, 1, .inl g) :: .inl (2, 9, .inr f) :: J), 0, 0)) rfl ?_
    refine m_iald rfl rfl (by omega) (by omega) (by decide) ?_
    show m_Sem X 55 (14, [some (.inr (.inl 13)), some (.inr (.inl 14)), some (.inl a), some (.inl b), some (.inl (bI r)), some (.inl (s : Int)), some (.inl 0), some (.inl x)], [.inl (g 0), .inl x], mW C (.inl (0, 1, .inl g) :: .inl (2, 9, .inr f) :: J), 0, 0) _
    rw [hg]
    refine m_icmp rfl ⟨by omega, by omega⟩ ⟨by omega, by omega⟩ (fun (zc1 : n ≤ x) => absurd zc1 (by omega)) (fun (zc1 : ¬ n ≤ x) => ?_)
    refine m_run 3 (ps' := (22, [some (.inr (.inl 13)), some (.inr (.inl 14)), some (.inl a), some (.inl b), some (.inl (bI r)), some (.inl (s : Int)), some (.inl 0), some (.inl x)], [.inl (bI r), .inl 1, .inl (s : Int)], mW C (.inl (0, 1, .inl g) :: .inl (2, 9, .inr f) :: J), 0, 0)) rfl ?_
    refine m_if rfl (bI_R r) (fun (zc2 : (bI r) = 0) => ?_) (fun (zc2 : ¬ (bI r) = 0) => ?_)
    · replace zc2 : r = false := bI_e0.mp zc2
      refine m_run 4 (ps' := (51, [some (.inr (.inl 13)), some (.inr (.inl 14)), some (.inl a), some (.inl b), some (.inl (bI r)), some (.inl (s : Int)), some (.inl 0), some (.inl x)], [.inl a, .inl x, .inr (.inl 14), .inr (.inl 13), .inl 1, .inl (s : Int)], mW C (.inl (0, 1, .inl g) :: .inl (2, 9, .inr f) :: J), 0, 0)) rfl ?_
      refine m_callSF [.inr (.inl 14), .inl x, .inl a] [.inr (.inl 13), .inl 1, .inl (s : Int)] rfl rfl rfl (a_of (a := x) (b := a) hL (by omega) (by omega) (by omega) (by omega)) ?_
      have zt1 := (hL.2 x a (by omega) (by omega) (by omega) (by omega)).2
      show m_Sem X 55 (54, [some (.inr (.inl 13)), some (.inr (.inl 14)), some (.inl a), some (.inl b), some (.inl (bI r)), some (.inl (s : Int)), some (.inl 0), some (.inl x)], [.inl (tb x a), .inr (.inl 13), .inl 1, .inl (s : Int)], mW C (.inl (0, 1, .inl g) :: .inl (2, 9, .inr f) :: J), 0, 0) _
      refine m_run 3 (ps' := (58, [some (.inr (.inl 13)), some (.inr (.inl 14)), some (.inl a), some (.inl b), some (.inl (bI r)), some (.inl (s : Int)), some (.inl 0), some (.inl x)], [.inl b, .inl x, .inr (.inl 14), .inl (tb x a), .inr (.inl 13), .inl 1, .inl (s : Int)], mW C (.inl (0, 1, .inl g) :: .inl (2, 9, .inr f) :: J), 0, 0)) rfl ?_
      refine m_callSF [.inr (.inl 14), .inl x, .inl b] [.inl (tb x a), .inr (.inl 13), .inl 1, .inl (s : Int)] rfl rfl rfl (a_of (a := x) (b := b) hL (by omega) (by omega) (by omega) (by omega)) ?_
      have zt2 := (hL.2 x b (by omega) (by omega) (by omega) (by omega)).2
      show m_Sem X 55 (61, [some (.inr (.inl 13)), some (.inr (.inl 14)), some (.inl a), some (.inl b), some (.inl (bI r)), some (.inl (s : Int)), some (.inl 0), some (.inl x)], [.inl (tb x b), .inl (tb x a), .inr (.inl 13), .inl 1, .inl (s : Int)], mW C (.inl (0, 1, .inl g) :: .inl (2, 9, .inr f) :: J), 0, 0) _
      refine m_callSF [.inr (.inl 13), .inl (tb x a), .inl (tb x b)] [.inl 1, .inl (s : Int)] rfl rfl rfl (a_min (a := (tb x a)) (b := (tb x b)) hg hn (by omega) (by omega) (by omega) (by omega)) ?_
      have zt3 := difS_in (n := n) (a := (tb x a)) (b := (tb x b)) hn (by omega) (by omega) (by omega) (by omega)
      show m_Sem X 55 (64, [some (.inr (.inl 13)), some (.inr (.inl 14)), some (.inl a), some (.inl b), some (.inl (bI r)), some (.inl (s : Int)), some (.inl 0), some (.inl x)], [.inl (difS n (tb x a) (tb x b)), .inl 1, .inl (s : Int)], mW C (.inl (0, 1, .inl g) :: .inl (2, 9, .inr f) :: J), 0, 0) _
      refine m_run 5 (ps' := (9, [some (.inr (.inl 13)), some (.inr (.inl 14)), some (.inl a), some (.inl b), some (.inl (bI r)), some (.inl ((Int32.ofInt (s : Int) ||| Int32.ofInt ((Int32.ofInt 1 <<< (Int32.ofInt (difS n (tb x a) (tb x b)) &&& 31)).toInt)).toInt)), some (.inl 0), some (.inl (x + 1))], [], mW C (.inl (0, 1, .inl g) :: .inl (2, 9, .inr f) :: J), 0, 0)) rfl ?_
      refine m_weak [some (.inr (.inl 13)), some (.inr (.inl 14)), some (.inl a), some (.inl b), some (.inl (bI r)), some (.inl ((Int32.ofInt (s : Int) ||| Int32.ofInt ((Int32.ofInt 1 <<< (Int32.ofInt (difS n (tb x a) (tb x b)) &&& 31)).toInt)).toInt)), some (.inl 0), some (.inl (x + 1))] ⟨rfl, ⟨rfl, ⟨rfl, ⟨rfl, ⟨rfl, ⟨rfl, ⟨rfl, ⟨rfl, trivial⟩⟩⟩⟩⟩⟩⟩⟩ ?_
      have hd2 : difF n tb r a b x = (difS n (tb x a) (tb x b)) := by rw [zc2]; rfl
      have hw := pow9 (d := (difS n (tb x a) (tb x b))) (by omega) (by omega)
      rw [m_shl1 (by omega) (by omega), m_or (by omega) (by omega), ← hd2]
      exact ih _ (or9 hs (by rw [hd2]; exact hw)) hu
    · replace zc2 : r = true := bI_n0.mp zc2
      refine m_run 4 (ps' := (30, [some (.inr (.inl 13)), some (.inr (.inl 14)), some (.inl a), some (.inl b), some (.inl (bI r)), some (.inl (s : Int)), some (.inl 0), some (.inl x)], [.inl x, .inl a, .inr (.inl 14), .inr (.inl 13), .inl 1, .inl (s : Int)], mW C (.inl (0, 1, .inl g) :: .inl (2, 9, .inr f) :: J), 0, 0)) rfl ?_
      refine m_callSF [.inr (.inl 14), .inl a, .inl x] [.inr (.inl 13), .inl 1, .inl (s : Int)] rfl rfl rfl (a_of (a := a) (b := x) hL (by omega) (by omega) (by omega) (by omega)) ?_
      have zt1 := (hL.2 a x (by omega) (by omega) (by omega) (by omega)).2
      show m_Sem X 55 (33, [some (.inr (.inl 13)), some (.inr (.inl 14)), some (.inl a), some (.inl b), some (.inl (bI r)), some (.inl (s : Int)), some (.inl 0), some (.inl x)], [.inl (tb a x), .inr (.inl 13), .inl 1, .inl (s : Int)], mW C (.inl (0, 1, .inl g) :: .inl (2, 9, .inr f) :: J), 0, 0) _
      refine m_run 3 (ps' := (37, [some (.inr (.inl 13)), some (.inr (.inl 14)), some (.inl a), some (.inl b), some (.inl (bI r)), some (.inl (s : Int)), some (.inl 0), some (.inl x)], [.inl x, .inl b, .inr (.inl 14), .inl (tb a x), .inr (.inl 13), .inl 1, .inl (s : Int)], mW C (.inl (0, 1, .inl g) :: .inl (2, 9, .inr f) :: J), 0, 0)) rfl ?_
      refine m_callSF [.inr (.inl 14), .inl b, .inl x] [.inl (tb a x), .inr (.inl 13), .inl 1, .inl (s : Int)] rfl rfl rfl (a_of (a := b) (b := x) hL (by omega) (by omega) (by omega) (by omega)) ?_
      have zt2 := (hL.2 b x (by omega) (by omega) (by omega) (by omega)).2
      show m_Sem X 55 (40, [some (.inr (.inl 13)), some (.inr (.inl 14)), some (.inl a), some (.inl b), some (.inl (bI r)), some (.inl (s : Int)), some (.inl 0), some (.inl x)], [.inl (tb b x), .inl (tb a x), .inr (.inl 13), .inl 1, .inl (s : Int)], mW C (.inl (0, 1, .inl g) :: .inl (2, 9, .inr f) :: J), 0, 0) _
      refine m_callSF [.inr (.inl 13), .inl (tb a x), .inl (tb b x)] [.inl 1, .inl (s : Int)] rfl rfl rfl (a_min (a := (tb a x)) (b := (tb b x)) hg hn (by omega) (by omega) (by omega) (by omega)) ?_
      have zt3 := difS_in (n := n) (a := (tb a x)) (b := (tb b x)) hn (by omega) (by omega) (by omega) (by omega)
      show m_Sem X 55 (43, [some (.inr (.inl 13)), some (.inr (.inl 14)), some (.inl a), some (.inl b), some (.inl (bI r)), some (.inl (s : Int)), some (.inl 0), some (.inl x)], [.inl (difS n (tb a x) (tb b x)), .inl 1, .inl (s : Int)], mW C (.inl (0, 1, .inl g) :: .inl (2, 9, .inr f) :: J), 0, 0) _
      refine m_run 6 (ps' := (9, [some (.inr (.inl 13)), some (.inr (.inl 14)), some (.inl a), some (.inl b), some (.inl (bI r)), some (.inl ((Int32.ofInt (s : Int) ||| Int32.ofInt ((Int32.ofInt 1 <<< (Int32.ofInt (difS n (tb a x) (tb b x)) &&& 31)).toInt)).toInt)), some (.inl 0), some (.inl (x + 1))], [], mW C (.inl (0, 1, .inl g) :: .inl (2, 9, .inr f) :: J), 0, 0)) rfl ?_
      refine m_weak [some (.inr (.inl 13)), some (.inr (.inl 14)), some (.inl a), some (.inl b), some (.inl (bI r)), some (.inl ((Int32.ofInt (s : Int) ||| Int32.ofInt ((Int32.ofInt 1 <<< (Int32.ofInt (difS n (tb a x) (tb b x)) &&& 31)).toInt)).toInt)), some (.inl 0), some (.inl (x + 1))] ⟨rfl, ⟨rfl, ⟨rfl, ⟨rfl, ⟨rfl, ⟨rfl, ⟨rfl, ⟨rfl, trivial⟩⟩⟩⟩⟩⟩⟩⟩ ?_
      have hd2 : difF n tb r a b x = (difS n (tb a x) (tb b x)) := by rw [zc2]; rfl
      have hw := pow9 (d := (difS n (tb a x) (tb b x))) (by omega) (by omega)
      rw [m_shl1 (by omega) (by omega), m_or (by omega) (by omega), ← hd2]
      exact ih _ (or9 hs (by rw [hd2]; exact hw)) hu
set_option maxHeartbeats 4000000 in
set_option maxRecDepth 100000 in
theorem a_unl {X : Nat × Nat × (Nat → Int32)} {C : CS} {g : Int → Int} {f : Nat → Int64} {J : mPW} {n : Int} {tb : Int → Int → Int} {a b : Int} {r : Bool} (hg : g 0 = n) (hL : repL n f tb) (ha : 0 ≤ a) (ha2 : a < n) (hb : 0 ≤ b) (hb2 : b < n) : m_Run X 55 [.inr (.inl 13), .inr (.inl 14), .inl a, .inl b, .inl (bI r)] (mW C (.inl (0, 1, .inl g) :: .inl (2, 9, .inr f) :: J)) (m_V (bI (decide (onceS n tb r a b = n))) (mW C (.inl (0, 1, .inl g) :: .inl (2, 9, .inr f) :: J))) := by
  have hn := hL.1
  have hl := okN_lo hn
  have hd : ∀ j, 0 ≤ j → j < n → 0 ≤ difF n tb r a b j ∧ difF n tb r a b j < n := by
    intro j g1 g2
    have e1 := (hL.2 a j ha ha2 g1 g2).2
    have e2 := (hL.2 b j hb hb2 g1 g2).2
    have e3 := (hL.2 j a g1 g2 ha ha2).2
    have e4 := (hL.2 j b g1 g2 hb hb2).2
    unfold difF sideS
    cases r
    · exact difS_in hn e3.1 e3.2 e4.1 e4.2
    · exact difS_in hn e1.1 e1.2 e2.1 e2.2
  have h9 := set_once (n := n) (f := difF n tb r a b) (by omega) (by omega) hd
  unfold onceS
  rw [← h9]
  show m_Sem X 55 (0, [some (.inr (.inl 13)), some (.inr (.inl 14)), some (.inl a), some (.inl b), some (.inl (bI r)), none, none, none], [], mW C (.inl (0, 1, .inl g) :: .inl (2, 9, .inr f) :: J), 0, 0) _
  refine m_run 6 (ps' := (9, [some (.inr (.inl 13)), some (.inr (.inl 14)), some (.inl a), some (.inl b), some (.inl (bI r)), some (.inl 0), some (.inl 0), some (.inl 0)], [], mW C (.inl (0, 1, .inl g) :: .inl (2, 9, .inr f) :: J), 0, 0)) rfl ?_
  refine m_weak [some (.inr (.inl 13)), some (.inr (.inl 14)), some (.inl a), some (.inl b), some (.inl (bI r)), some (.inl 0), some (.inl 0), some (.inl 0)] ⟨rfl, ⟨rfl, ⟨rfl, ⟨rfl, ⟨rfl, ⟨rfl, ⟨rfl, ⟨rfl, trivial⟩⟩⟩⟩⟩⟩⟩⟩ ?_
  exact a_un1 hg hL ha ha2 hb hb2 0 (by omega) (by omega) 0 (by omega) (by rw [z_sub])
theorem hs_0 {n : Int} {tb : Int → Int → Int} {a b c : Int} : holdsS n tb 0 a b c = true ↔ tb 0 a = 0 ∧ tb a 0 = 0 := by simp [holdsS]
theorem hs_1 {n : Int} {tb : Int → Int → Int} {a b c : Int} : holdsS n tb 1 a b c = true ↔ tb 1 a = a ∧ tb a 1 = a := by simp [holdsS]
theorem hs_2 {n : Int} {tb : Int → Int → Int} {a b c : Int} : holdsS n tb 2 a b c = true ↔ tb a (sumS n b c) = sumS n (tb a b) (tb a c) := by simp [holdsS]
theorem hs_3 {n : Int} {tb : Int → Int → Int} {a b c : Int} : holdsS n tb 3 a b c = true ↔ tb (sumS n a b) c = sumS n (tb a c) (tb b c) := by simp [holdsS]
theorem hs_4 {n : Int} {tb : Int → Int → Int} {a b c : Int} : holdsS n tb 4 a b c = true ↔ tb (tb a b) c = tb a (tb b c) := by simp [holdsS]
theorem hs_5 {n : Int} {tb : Int → Int → Int} {a b c : Int} : holdsS n tb 5 a b c = true ↔ tb a b = tb b a := by simp [holdsS]
theorem hs_6 {n : Int} {tb : Int → Int → Int} {a b c : Int} : holdsS n tb 6 a b c = true ↔ a = b ∨ decide (onceS n tb true a b = n) = true := by simp [holdsS]
theorem hs_7 {n : Int} {tb : Int → Int → Int} {a b c : Int} : holdsS n tb 7 a b c = true ↔ a = b ∨ decide (onceS n tb false a b = n) = true := by simp [holdsS]
set_option maxHeartbeats 4000000 in
set_option maxRecDepth 100000 in
theorem a_h0 {X : Nat × Nat × (Nat → Int32)} {C : CS} {g : Int → Int} {f : Nat → Int64} {J : mPW} {n : Int} {tb : Int → Int → Int} {a b c : Int} (hg : g 0 = n) (hL : repL n f tb) (ha : 0 ≤ a) (ha2 : a < n) (hb : 0 ≤ b) (hb2 : b < n) (hc : 0 ≤ c) (hc2 : c < n) : m_Run X 56 [.inr (.inl 13), .inr (.inl 14), .inl 0, .inl a, .inl b, .inl c] (mW C (.inl (0, 1, .inl g) :: .inl (2, 9, .inr f) :: J)) (m_V (bI (holdsS n tb 0 a b c)) (mW C (.inl (0, 1, .inl g) :: .inl (2, 9, .inr f) :: J))) := by
  have hn := hL.1
  have hl := okN_lo hn
  show m_Sem X 56 (0, [some (.inr (.inl 13)), some (.inr (.inl 14)), some (.inl 0), some (.inl a), some (.inl b), some (.inl c)], [], mW C (.inl (0, 1, .inl g) :: .inl (2, 9, .inr f) :: J), 0, 0) _
  refine m_run 1 (ps' := (1, [some (.inr (.inl 13)), some (.inr (.inl 14)), some (.inl 0), some (.inl a), some (.inl b), some (.inl c)], [.inl 0], mW C (.inl (0, 1, .inl g) :: .inl (2, 9, .inr f) :: J), 0, 0)) rfl ?_
  refine m_if rfl ⟨by omega, by omega⟩ (fun (zc1 : ¬ 0 = 0) => absurd zc1 (by omega)) (fun (zc1 : ¬ ¬ 0 = 0) => ?_)
  refine m_run 3 (ps' := (7, [some (.inr (.inl 13)), some (.inr (.inl 14)), some (.inl 0), some (.inl a), some (.inl b), some (.inl c)], [.inl a, .inl 0, .inr (.inl 14)], mW C (.inl (0, 1, .inl g) :: .inl (2, 9, .inr f) :: J), 0, 0)) rfl ?_
  refine m_callSF [.inr (.inl 14), .inl 0, .inl a] [] rfl rfl rfl (a_of (a := 0) (b := a) hL (by omega) (by omega) (by omega) (by omega)) ?_
  have zt1 := (hL.2 0 a (by omega) (by omega) (by omega) (by omega)).2
  show m_Sem X 56 (10, [some (.inr (.inl 13)), some (.inr (.inl 14)), some (.inl 0), some (.inl a), some (.inl b), some (.inl c)], [.inl (tb 0 a)], mW C (.inl (0, 1, .inl g) :: .inl (2, 9, .inr f) :: J), 0, 0) _
  refine m_run 3 (ps' := (13, [some (.inr (.inl 13)), some (.inr (.inl 14)), some (.inl 0), some (.inl a), some (.inl b), some (.inl c)], [.inl 0, .inl a, .inr (.inl 14), .inl (tb 0 a)], mW C (.inl (0, 1, .inl g) :: .inl (2, 9, .inr f) :: J), 0, 0)) rfl ?_
  refine m_callSF [.inr (.inl 14), .inl a, .inl 0] [.inl (tb 0 a)] rfl rfl rfl (a_of (a := a) (b := 0) hL (by omega) (by omega) (by omega) (by omega)) ?_
  have zt2 := (hL.2 a 0 (by omega) (by omega) (by omega) (by omega)).2
  show m_Sem X 56 (16, [some (.inr (.inl 13)), some (.inr (.inl 14)), some (.inl 0), some (.inl a), some (.inl b), some (.inl c)], [.inl (tb a 0), .inl (tb 0 a)], mW C (.inl (0, 1, .inl g) :: .inl (2, 9, .inr f) :: J), 0, 0) _
  refine m_run 1 (ps' := (17, [some (.inr (.inl 13)), some (.inr (.inl 14)), some (.inl 0), some (.inl a), some (.inl b), some (.inl c)], [.inl ((tb 0 a) + (tb a 0))], mW C (.inl (0, 1, .inl g) :: .inl (2, 9, .inr f) :: J), 0, 0)) rfl ?_
  refine m_if rfl ⟨by omega, by omega⟩ (fun (zc2 : ¬ ((tb 0 a) + (tb a 0)) = 0) => ?_) (fun (zc2 : ¬ ¬ ((tb 0 a) + (tb a 0)) = 0) => ?_)
  · refine m_run 1 (ps' := (25, [some (.inr (.inl 13)), some (.inr (.inl 14)), some (.inl 0), some (.inl a), some (.inl b), some (.inl c)], [.inl 0], mW C (.inl (0, 1, .inl g) :: .inl (2, 9, .inr f) :: J), 0, 0)) rfl ?_
    exact m_ret1 rfl (Or.inr ⟨rfl, Or.inl rfl⟩) rfl (m_Vb (b0 (Bool.eq_false_iff.mpr (fun h9 => absurd (hs_0.mp h9) (by omega)))))
  · replace zc2 : ((tb 0 a) + (tb a 0)) = 0 := Decidable.not_not.mp zc2
    refine m_run 2 (ps' := (25, [some (.inr (.inl 13)), some (.inr (.inl 14)), some (.inl 0), some (.inl a), some (.inl b), some (.inl c)], [.inl 1], mW C (.inl (0, 1, .inl g) :: .inl (2, 9, .inr f) :: J), 0, 0)) rfl ?_
    exact m_ret1 rfl (Or.inr ⟨rfl, Or.inr rfl⟩) rfl (m_Vb (b1 (hs_0.mpr (by omega))))
set_option maxHeartbeats 4000000 in
set_option maxRecDepth 100000 in
theorem a_h1 {X : Nat × Nat × (Nat → Int32)} {C : CS} {g : Int → Int} {f : Nat → Int64} {J : mPW} {n : Int} {tb : Int → Int → Int} {a b c : Int} (hg : g 0 = n) (hL : repL n f tb) (ha : 0 ≤ a) (ha2 : a < n) (hb : 0 ≤ b) (hb2 : b < n) (hc : 0 ≤ c) (hc2 : c < n) : m_Run X 56 [.inr (.inl 13), .inr (.inl 14), .inl 1, .inl a, .inl b, .inl c] (mW C (.inl (0, 1, .inl g) :: .inl (2, 9, .inr f) :: J)) (m_V (bI (holdsS n tb 1 a b c)) (mW C (.inl (0, 1, .inl g) :: .inl (2, 9, .inr f) :: J))) := by
  have hn := hL.1
  have hl := okN_lo hn
  show m_Sem X 56 (0, [some (.inr (.inl 13)), some (.inr (.inl 14)), some (.inl 1), some (.inl a), some (.inl b), some (.inl c)], [], mW C (.inl (0, 1, .inl g) :: .inl (2, 9, .inr f) :: J), 0, 0) _
  refine m_run 1 (ps' := (1, [some (.inr (.inl 13)), some (.inr (.inl 14)), some (.inl 1), some (.inl a), some (.inl b), some (.inl c)], [.inl 1], mW C (.inl (0, 1, .inl g) :: .inl (2, 9, .inr f) :: J), 0, 0)) rfl ?_
  refine m_if rfl ⟨by omega, by omega⟩ (fun (zc1 : ¬ 1 = 0) => ?_) (fun (zc1 : ¬ ¬ 1 = 0) => absurd zc1 (not_not_intro (by omega)))
  refine m_run 2 (ps' := (28, [some (.inr (.inl 13)), some (.inr (.inl 14)), some (.inl 1), some (.inl a), some (.inl b), some (.inl c)], [.inl 1, .inl 1], mW C (.inl (0, 1, .inl g) :: .inl (2, 9, .inr f) :: J), 0, 0)) rfl ?_
  refine m_icmp rfl ⟨by omega, by omega⟩ ⟨by omega, by omega⟩ (fun (zc2 : ¬ 1 = 1) => absurd zc2 (by omega)) (fun (zc2 : ¬ ¬ 1 = 1) => ?_)
  refine m_run 3 (ps' := (34, [some (.inr (.inl 13)), some (.inr (.inl 14)), some (.inl 1), some (.inl a), some (.inl b), some (.inl c)], [.inl a, .inl 1, .inr (.inl 14)], mW C (.inl (0, 1, .inl g) :: .inl (2, 9, .inr f) :: J), 0, 0)) rfl ?_
  refine m_callSF [.inr (.inl 14), .inl 1, .inl a] [] rfl rfl rfl (a_of (a := 1) (b := a) hL (by omega) (by omega) (by omega) (by omega)) ?_
  have zt1 := (hL.2 1 a (by omega) (by omega) (by omega) (by omega)).2
  show m_Sem X 56 (37, [some (.inr (.inl 13)), some (.inr (.inl 14)), some (.inl 1), some (.inl a), some (.inl b), some (.inl c)], [.inl (tb 1 a)], mW C (.inl (0, 1, .inl g) :: .inl (2, 9, .inr f) :: J), 0, 0) _
  refine m_run 1 (ps' := (38, [some (.inr (.inl 13)), some (.inr (.inl 14)), some (.inl 1), some (.inl a), some (.inl b), some (.inl c)], [.inl a, .inl (tb 1 a)], mW C (.inl (0, 1, .inl g) :: .inl (2, 9, .inr f) :: J), 0, 0)) rfl ?_
  refine m_icmp rfl ⟨by omega, by omega⟩ ⟨by omega, by omega⟩ (fun (zc3 : ¬ (tb 1 a) = a) => ?_) (fun (zc3 : ¬ ¬ (tb 1 a) = a) => ?_)
  · refine m_run 1 (ps' := (56, [some (.inr (.inl 13)), some (.inr (.inl 14)), some (.inl 1), some (.inl a), some (.inl b), some (.inl c)], [.inl 0], mW C (.inl (0, 1, .inl g) :: .inl (2, 9, .inr f) :: J), 0, 0)) rfl ?_
    exact m_ret1 rfl (Or.inr ⟨rfl, Or.inl rfl⟩) rfl (m_Vb (b0 (Bool.eq_false_iff.mpr (fun h9 => absurd (hs_1.mp h9) (by omega)))))
  · replace zc3 : (tb 1 a) = a := Decidable.not_not.mp zc3
    refine m_run 3 (ps' := (44, [some (.inr (.inl 13)), some (.inr (.inl 14)), some (.inl 1), some (.inl a), some (.inl b), some (.inl c)], [.inl 1, .inl a, .inr (.inl 14)], mW C (.inl (0, 1, .inl g) :: .inl (2, 9, .inr f) :: J), 0, 0)) rfl ?_
    refine m_callSF [.inr (.inl 14), .inl a, .inl 1] [] rfl rfl rfl (a_of (a := a) (b := 1) hL (by omega) (by omega) (by omega) (by omega)) ?_
    have zt2 := (hL.2 a 1 (by omega) (by omega) (by omega) (by omega)).2
    show m_Sem X 56 (47, [some (.inr (.inl 13)), some (.inr (.inl 14)), some (.inl 1), some (.inl a), some (.inl b), some (.inl c)], [.inl (tb a 1)], mW C (.inl (0, 1, .inl g) :: .inl (2, 9, .inr f) :: J), 0, 0) _
    refine m_run 1 (ps' := (48, [some (.inr (.inl 13)), some (.inr (.inl 14)), some (.inl 1), some (.inl a), some (.inl b), some (.inl c)], [.inl a, .inl (tb a 1)], mW C (.inl (0, 1, .inl g) :: .inl (2, 9, .inr f) :: J), 0, 0)) rfl ?_
    refine m_icmp rfl ⟨by omega, by omega⟩ ⟨by omega, by omega⟩ (fun (zc4 : ¬ (tb a 1) = a) => ?_) (fun (zc4 : ¬ ¬ (tb a 1) = a) => ?_)
    · refine m_run 1 (ps' := (56, [some (.inr (.inl 13)), some (.inr (.inl 14)), some (.inl 1), some (.inl a), some (.inl b), some (.inl c)], [.inl 0], mW C (.inl (0, 1, .inl g) :: .inl (2, 9, .inr f) :: J), 0, 0)) rfl ?_
      exact m_ret1 rfl (Or.inr ⟨rfl, Or.inl rfl⟩) rfl (m_Vb (b0 (Bool.eq_false_iff.mpr (fun h9 => absurd (hs_1.mp h9) (by omega)))))
    · replace zc4 : (tb a 1) = a := Decidable.not_not.mp zc4
      refine m_run 2 (ps' := (56, [some (.inr (.inl 13)), some (.inr (.inl 14)), some (.inl 1), some (.inl a), some (.inl b), some (.inl c)], [.inl 1], mW C (.inl (0, 1, .inl g) :: .inl (2, 9, .inr f) :: J), 0, 0)) rfl ?_
      exact m_ret1 rfl (Or.inr ⟨rfl, Or.inr rfl⟩) rfl (m_Vb (b1 (hs_1.mpr (by omega))))
set_option maxHeartbeats 4000000 in
set_option maxRecDepth 100000 in
theorem a_h2 {X : Nat × Nat × (Nat → Int32)} {C : CS} {g : Int → Int} {f : Nat → Int64} {J : mPW} {n : Int} {tb : Int → Int → Int} {a b c : Int} (hg : g 0 = n) (hL : repL n f tb) (ha : 0 ≤ a) (ha2 : a < n) (hb : 0 ≤ b) (hb2 : b < n) (hc : 0 ≤ c) (hc2 : c < n) : m_Run X 56 [.inr (.inl 13), .inr (.inl 14), .inl 2, .inl a, .inl b, .inl c] (mW C (.inl (0, 1, .inl g) :: .inl (2, 9, .inr f) :: J)) (m_V (bI (holdsS n tb 2 a b c)) (mW C (.inl (0, 1, .inl g) :: .inl (2, 9, .inr f) :: J))) := by
  have hn := hL.1
  have hl := okN_lo hn
  show m_Sem X 56 (0, [some (.inr (.inl 13)), some (.inr (.inl 14)), some (.inl 2), some (.inl a), some (.inl b), some (.inl c)], [], mW C (.inl (0, 1, .inl g) :: .inl (2, 9, .inr f) :: J), 0, 0) _
  refine m_run 1 (ps' := (1, [some (.inr (.inl 13)), some (.inr (.inl 14)), some (.inl 2), some (.inl a), some (.inl b), some (.inl c)], [.inl 2], mW C (.inl (0, 1, .inl g) :: .inl (2, 9, .inr f) :: J), 0, 0)) rfl ?_
  refine m_if rfl ⟨by omega, by omega⟩ (fun (zc1 : ¬ 2 = 0) => ?_) (fun (zc1 : ¬ ¬ 2 = 0) => absurd zc1 (not_not_intro (by omega)))
  refine m_run 2 (ps' := (28, [some (.inr (.inl 13)), some (.inr (.inl 14)), some (.inl 2), some (.inl a), some (.inl b), some (.inl c)], [.inl 1, .inl 2], mW C (.inl (0, 1, .inl g) :: .inl (2, 9, .inr f) :: J), 0, 0)) rfl ?_
  refine m_icmp rfl ⟨by omega, by omega⟩ ⟨by omega, by omega⟩ (fun (zc2 : ¬ 2 = 1) => ?_) (fun (zc2 : ¬ ¬ 2 = 1) => absurd zc2 (not_not_intro (by omega)))
  refine m_run 2 (ps' := (59, [some (.inr (.inl 13)), some (.inr (.inl 14)), some (.inl 2), some (.inl a), some (.inl b), some (.inl c)], [.inl 2, .inl 2], mW C (.inl (0, 1, .inl g) :: .inl (2, 9, .inr f) :: J), 0, 0)) rfl ?_
  refine m_icmp rfl ⟨by omega, by omega⟩ ⟨by omega, by omega⟩ (fun (zc3 : ¬ 2 = 2) => absurd zc3 (by omega)) (fun (zc3 : ¬ ¬ 2 = 2) => ?_)
  refine m_run 6 (ps' := (70, [some (.inr (.inl 13)), some (.inr (.inl 14)), some (.inl 2), some (.inl a), some (.inl b), some (.inl c)], [.inl c, .inl b, .inr (.inl 13), .inl a, .inr (.inl 14), .inr (.inl 13)], mW C (.inl (0, 1, .inl g) :: .inl (2, 9, .inr f) :: J), 0, 0)) rfl ?_
  refine m_callSF [.inr (.inl 13), .inl b, .inl c] [.inl a, .inr (.inl 14), .inr (.inl 13)] rfl rfl rfl (a_add (a := b) (b := c) hg hn (by omega) (by omega) (by omega) (by omega)) ?_
  have zt1 := sumS_in (n := n) (a := b) (b := c) hn (by omega) (by omega) (by omega) (by omega)
  show m_Sem X 56 (73, [some (.inr (.inl 13)), some (.inr (.inl 14)), some (.inl 2), some (.inl a), some (.inl b), some (.inl c)], [.inl (sumS n b c), .inl a, .inr (.inl 14), .inr (.inl 13)], mW C (.inl (0, 1, .inl g) :: .inl (2, 9, .inr f) :: J), 0, 0) _
  refine m_callSF [.inr (.inl 14), .inl a, .inl (sumS n b c)] [.inr (.inl 13)] rfl rfl rfl (a_of (a := a) (b := (sumS n b c)) hL (by omega) (by omega) (by omega) (by omega)) ?_
  have zt2 := (hL.2 a (sumS n b c) (by omega) (by omega) (by omega) (by omega)).2
  show m_Sem X 56 (76, [some (.inr (.inl 13)), some (.inr (.inl 14)), some (.inl 2), some (.inl a), some (.inl b), some (.inl c)], [.inl (tb a (sumS n b c)), .inr (.inl 13)], mW C (.inl (0, 1, .inl g) :: .inl (2, 9, .inr f) :: J), 0, 0) _
  refine m_run 3 (ps' := (80, [some (.inr (.inl 13)), some (.inr (.inl 14)), some (.inl 2), some (.inl a), some (.inl b), some (.inl c)], [.inl b, .inl a, .inr (.inl 14), .inl (tb a (sumS n b c)), .inr (.inl 13)], mW C (.inl (0, 1, .inl g) :: .inl (2, 9, .inr f) :: J), 0, 0)) rfl ?_
  refine m_callSF [.inr (.inl 14), .inl a, .inl b] [.inl (tb a (sumS n b c)), .inr (.inl 13)] rfl rfl rfl (a_of (a := a) (b := b) hL (by omega) (by omega) (by omega) (by omega)) ?_
  have zt3 := (hL.2 a b (by omega) (by omega) (by omega) (by omega)).2
  show m_Sem X 56 (83, [some (.inr (.inl 13)), some (.inr (.inl 14)), some (.inl 2), some (.inl a), some (.inl b), some (.inl c)], [.inl (tb a b), .inl (tb a (sumS n b c)), .inr (.inl 13)], mW C (.inl (0, 1, .inl g) :: .inl (2, 9, .inr f) :: J), 0, 0) _
  refine m_callSF [.inr (.inl 13), .inl (tb a (sumS n b c)), .inl (tb a b)] [] rfl rfl rfl (a_min (a := (tb a (sumS n b c))) (b := (tb a b)) hg hn (by omega) (by omega) (by omega) (by omega)) ?_
  have zt4 := difS_in (n := n) (a := (tb a (sumS n b c))) (b := (tb a b)) hn (by omega) (by omega) (by omega) (by omega)
  show m_Sem X 56 (86, [some (.inr (.inl 13)), some (.inr (.inl 14)), some (.inl 2), some (.inl a), some (.inl b), some (.inl c)], [.inl (difS n (tb a (sumS n b c)) (tb a b))], mW C (.inl (0, 1, .inl g) :: .inl (2, 9, .inr f) :: J), 0, 0) _
  refine m_run 3 (ps' := (90, [some (.inr (.inl 13)), some (.inr (.inl 14)), some (.inl 2), some (.inl a), some (.inl b), some (.inl c)], [.inl c, .inl a, .inr (.inl 14), .inl (difS n (tb a (sumS n b c)) (tb a b))], mW C (.inl (0, 1, .inl g) :: .inl (2, 9, .inr f) :: J), 0, 0)) rfl ?_
  refine m_callSF [.inr (.inl 14), .inl a, .inl c] [.inl (difS n (tb a (sumS n b c)) (tb a b))] rfl rfl rfl (a_of (a := a) (b := c) hL (by omega) (by omega) (by omega) (by omega)) ?_
  have zt5 := (hL.2 a c (by omega) (by omega) (by omega) (by omega)).2
  show m_Sem X 56 (93, [some (.inr (.inl 13)), some (.inr (.inl 14)), some (.inl 2), some (.inl a), some (.inl b), some (.inl c)], [.inl (tb a c), .inl (difS n (tb a (sumS n b c)) (tb a b))], mW C (.inl (0, 1, .inl g) :: .inl (2, 9, .inr f) :: J), 0, 0) _
  refine m_icmp rfl ⟨by omega, by omega⟩ ⟨by omega, by omega⟩ (fun (zc4 : ¬ (difS n (tb a (sumS n b c)) (tb a b)) = (tb a c)) => ?_) (fun (zc4 : ¬ ¬ (difS n (tb a (sumS n b c)) (tb a b)) = (tb a c)) => ?_)
  · refine m_run 1 (ps' := (101, [some (.inr (.inl 13)), some (.inr (.inl 14)), some (.inl 2), some (.inl a), some (.inl b), some (.inl c)], [.inl 0], mW C (.inl (0, 1, .inl g) :: .inl (2, 9, .inr f) :: J), 0, 0)) rfl ?_
    have h7 := dif_iff (x := tb a (sumS n b c)) (y := tb a b) (z := tb a c) hn (by omega) (by omega) (by omega) (by omega) (by omega) (by omega)
    exact m_ret1 rfl (Or.inr ⟨rfl, Or.inl rfl⟩) rfl (m_Vb (b0 (Bool.eq_false_iff.mpr (fun h9 => absurd (h7.mpr (hs_2.mp h9)) (by assumption)))))
  · replace zc4 : (difS n (tb a (sumS n b c)) (tb a b)) = (tb a c) := Decidable.not_not.mp zc4
    refine m_run 2 (ps' := (101, [some (.inr (.inl 13)), some (.inr (.inl 14)), some (.inl 2), some (.inl a), some (.inl b), some (.inl c)], [.inl 1], mW C (.inl (0, 1, .inl g) :: .inl (2, 9, .inr f) :: J), 0, 0)) rfl ?_
    have h7 := dif_iff (x := tb a (sumS n b c)) (y := tb a b) (z := tb a c) hn (by omega) (by omega) (by omega) (by omega) (by omega) (by omega)
    exact m_ret1 rfl (Or.inr ⟨rfl, Or.inr rfl⟩) rfl (m_Vb (b1 (hs_2.mpr (h7.mp (by assumption)))))
set_option maxHeartbeats 4000000 in
set_option maxRecDepth 100000 in
theorem a_h3 {X : Nat × Nat × (Nat → Int32)} {C : CS} {g : Int → Int} {f : Nat → Int64} {J : mPW} {n : Int} {tb : Int → Int → Int} {a b c : Int} (hg : g 0 = n) (hL : repL n f tb) (ha : 0 ≤ a) (ha2 : a < n) (hb : 0 ≤ b) (hb2 : b < n) (hc : 0 ≤ c) (hc2 : c < n) : m_Run X 56 [.inr (.inl 13), .inr (.inl 14), .inl 3, .inl a, .inl b, .inl c] (mW C (.inl (0, 1, .inl g) :: .inl (2, 9, .inr f) :: J)) (m_V (bI (holdsS n tb 3 a b c)) (mW C (.inl (0, 1, .inl g) :: .inl (2, 9, .inr f) :: J))) := by
  have hn := hL.1
  have hl := okN_lo hn
  show m_Sem X 56 (0, [some (.inr (.inl 13)), some (.inr (.inl 14)), some (.inl 3), some (.inl a), some (.inl b), some (.inl c)], [], mW C (.inl (0, 1, .inl g) :: .inl (2, 9, .inr f) :: J), 0, 0) _
  refine m_run 1 (ps' := (1, [some (.inr (.inl 13)), some (.inr (.inl 14)), some (.inl 3), some (.inl a), some (.inl b), some (.inl c)], [.inl 3], mW C (.inl (0, 1, .inl g) :: .inl (2, 9, .inr f) :: J), 0, 0)) rfl ?_
  refine m_if rfl ⟨by omega, by omega⟩ (fun (zc1 : ¬ 3 = 0) => ?_) (fun (zc1 : ¬ ¬ 3 = 0) => absurd zc1 (not_not_intro (by omega)))
  refine m_run 2 (ps' := (28, [some (.inr (.inl 13)), some (.inr (.inl 14)), some (.inl 3), some (.inl a), some (.inl b), some (.inl c)], [.inl 1, .inl 3], mW C (.inl (0, 1, .inl g) :: .inl (2, 9, .inr f) :: J), 0, 0)) rfl ?_
  refine m_icmp rfl ⟨by omega, by omega⟩ ⟨by omega, by omega⟩ (fun (zc2 : ¬ 3 = 1) => ?_) (fun (zc2 : ¬ ¬ 3 = 1) => absurd zc2 (not_not_intro (by omega)))
  refine m_run 2 (ps' := (59, [some (.inr (.inl 13)), some (.inr (.inl 14)), some (.inl 3), some (.inl a), some (.inl b), some (.inl c)], [.inl 2, .inl 3], mW C (.inl (0, 1, .inl g) :: .inl (2, 9, .inr f) :: J), 0, 0)) rfl ?_
  refine m_icmp rfl ⟨by omega, by omega⟩ ⟨by omega, by omega⟩ (fun (zc3 : ¬ 3 = 2) => ?_) (fun (zc3 : ¬ ¬ 3 = 2) => absurd zc3 (not_not_intro (by omega)))
  refine m_run 2 (ps' := (104, [some (.inr (.inl 13)), some (.inr (.inl 14)), some (.inl 3), some (.inl a), some (.inl b), some (.inl c)], [.inl 3, .inl 3], mW C (.inl (0, 1, .inl g) :: .inl (2, 9, .inr f) :: J), 0, 0)) rfl ?_
  refine m_icmp rfl ⟨by omega, by omega⟩ ⟨by omega, by omega⟩ (fun (zc4 : ¬ 3 = 3) => absurd zc4 (by omega)) (fun (zc4 : ¬ ¬ 3 = 3) => ?_)
  refine m_run 5 (ps' := (113, [some (.inr (.inl 13)), some (.inr (.inl 14)), some (.inl 3), some (.inl a), some (.inl b), some (.inl c)], [.inl b, .inl a, .inr (.inl 13), .inr (.inl 14), .inr (.inl 13)], mW C (.inl (0, 1, .inl g) :: .inl (2, 9, .inr f) :: J), 0, 0)) rfl ?_
  refine m_callSF [.inr (.inl 13), .inl a, .inl b] [.inr (.inl 14), .inr (.inl 13)] rfl rfl rfl (a_add (a := a) (b := b) hg hn (by omega) (by omega) (by omega) (by omega)) ?_
  have zt1 := sumS_in (n := n) (a := a) (b := b) hn (by omega) (by omega) (by omega) (by omega)
  show m_Sem X 56 (116, [some (.inr (.inl 13)), some (.inr (.inl 14)), some (.inl 3), some (.inl a), some (.inl b), some (.inl c)], [.inl (sumS n a b), .inr (.inl 14), .inr (.inl 13)], mW C (.inl (0, 1, .inl g) :: .inl (2, 9, .inr f) :: J), 0, 0) _
  refine m_run 1 (ps' := (118, [some (.inr (.inl 13)), some (.inr (.inl 14)), some (.inl 3), some (.inl a), some (.inl b), some (.inl c)], [.inl c, .inl (sumS n a b), .inr (.inl 14), .inr (.inl 13)], mW C (.inl (0, 1, .inl g) :: .inl (2, 9, .inr f) :: J), 0, 0)) rfl ?_
  refine m_callSF [.inr (.inl 14), .inl (sumS n a b), .inl c] [.inr (.inl 13)] rfl rfl rfl (a_of (a := (sumS n a b)) (b := c) hL (by omega) (by omega) (by omega) (by omega)) ?_
  have zt2 := (hL.2 (sumS n a b) c (by omega) (by omega) (by omega) (by omega)).2
  show m_Sem X 56 (121, [some (.inr (.inl 13)), some (.inr (.inl 14)), some (.inl 3), some (.inl a), some (.inl b), some (.inl c)], [.inl (tb (sumS n a b) c), .inr (.inl 13)], mW C (.inl (0, 1, .inl g) :: .inl (2, 9, .inr f) :: J), 0, 0) _
  refine m_run 3 (ps' := (125, [some (.inr (.inl 13)), some (.inr (.inl 14)), some (.inl 3), some (.inl a), some (.inl b), some (.inl c)], [.inl c, .inl a, .inr (.inl 14), .inl (tb (sumS n a b) c), .inr (.inl 13)], mW C (.inl (0, 1, .inl g) :: .inl (2, 9, .inr f) :: J), 0, 0)) rfl ?_
  refine m_callSF [.inr (.inl 14), .inl a, .inl c] [.inl (tb (sumS n a b) c), .inr (.inl 13)] rfl rfl rfl (a_of (a := a) (b := c) hL (by omega) (by omega) (by omega) (by omega)) ?_
  have zt3 := (hL.2 a c (by omega) (by omega) (by omega) (by omega)).2
  show m_Sem X 56 (128, [some (.inr (.inl 13)), some (.inr (.inl 14)), some (.inl 3), some (.inl a), some (.inl b), some (.inl c)], [.inl (tb a c), .inl (tb (sumS n a b) c), .inr (.inl 13)], mW C (.inl (0, 1, .inl g) :: .inl (2, 9, .inr f) :: J), 0, 0) _
  refine m_callSF [.inr (.inl 13), .inl (tb (sumS n a b) c), .inl (tb a c)] [] rfl rfl rfl (a_min (a := (tb (sumS n a b) c)) (b := (tb a c)) hg hn (by omega) (by omega) (by omega) (by omega)) ?_
  have zt4 := difS_in (n := n) (a := (tb (sumS n a b) c)) (b := (tb a c)) hn (by omega) (by omega) (by omega) (by omega)
  show m_Sem X 56 (131, [some (.inr (.inl 13)), some (.inr (.inl 14)), some (.inl 3), some (.inl a), some (.inl b), some (.inl c)], [.inl (difS n (tb (sumS n a b) c) (tb a c))], mW C (.inl (0, 1, .inl g) :: .inl (2, 9, .inr f) :: J), 0, 0) _
  refine m_run 3 (ps' := (136, [some (.inr (.inl 13)), some (.inr (.inl 14)), some (.inl 3), some (.inl a), some (.inl b), some (.inl c)], [.inl c, .inl b, .inr (.inl 14), .inl (difS n (tb (sumS n a b) c) (tb a c))], mW C (.inl (0, 1, .inl g) :: .inl (2, 9, .inr f) :: J), 0, 0)) rfl ?_
  refine m_callSF [.inr (.inl 14), .inl b, .inl c] [.inl (difS n (tb (sumS n a b) c) (tb a c))] rfl rfl rfl (a_of (a := b) (b := c) hL (by omega) (by omega) (by omega) (by omega)) ?_
  have zt5 := (hL.2 b c (by omega) (by omega) (by omega) (by omega)).2
  show m_Sem X 56 (139, [some (.inr (.inl 13)), some (.inr (.inl 14)), some (.inl 3), some (.inl a), some (.inl b), some (.inl c)], [.inl (tb b c), .inl (difS n (tb (sumS n a b) c) (tb a c))], mW C (.inl (0, 1, .inl g) :: .inl (2, 9, .inr f) :: J), 0, 0) _
  refine m_icmp rfl ⟨by omega, by omega⟩ ⟨by omega, by omega⟩ (fun (zc5 : ¬ (difS n (tb (sumS n a b) c) (tb a c)) = (tb b c)) => ?_) (fun (zc5 : ¬ ¬ (difS n (tb (sumS n a b) c) (tb a c)) = (tb b c)) => ?_)
  · refine m_run 1 (ps' := (147, [some (.inr (.inl 13)), some (.inr (.inl 14)), some (.inl 3), some (.inl a), some (.inl b), some (.inl c)], [.inl 0], mW C (.inl (0, 1, .inl g) :: .inl (2, 9, .inr f) :: J), 0, 0)) rfl ?_
    have h7 := dif_iff (x := tb (sumS n a b) c) (y := tb a c) (z := tb b c) hn (by omega) (by omega) (by omega) (by omega) (by omega) (by omega)
    exact m_ret1 rfl (Or.inr ⟨rfl, Or.inl rfl⟩) rfl (m_Vb (b0 (Bool.eq_false_iff.mpr (fun h9 => absurd (h7.mpr (hs_3.mp h9)) (by assumption)))))
  · replace zc5 : (difS n (tb (sumS n a b) c) (tb a c)) = (tb b c) := Decidable.not_not.mp zc5
    refine m_run 2 (ps' := (147, [some (.inr (.inl 13)), some (.inr (.inl 14)), some (.inl 3), some (.inl a), some (.inl b), some (.inl c)], [.inl 1], mW C (.inl (0, 1, .inl g) :: .inl (2, 9, .inr f) :: J), 0, 0)) rfl ?_
    have h7 := dif_iff (x := tb (sumS n a b) c) (y := tb a c) (z := tb b c) hn (by omega) (by omega) (by omega) (by omega) (by omega) (by omega)
    exact m_ret1 rfl (Or.inr ⟨rfl, Or.inr rfl⟩) rfl (m_Vb (b1 (hs_3.mpr (h7.mp (by assumption)))))
set_option maxHeartbeats 4000000 in
set_option maxRecDepth 100000 in
theorem a_h4 {X : Nat × Nat × (Nat → Int32)} {C : CS} {g : Int → Int} {f : Nat → Int64} {J : mPW} {n : Int} {tb : Int → Int → Int} {a b c : Int} (hg : g 0 = n) (hL : repL n f tb) (ha : 0 ≤ a) (ha2 : a < n) (hb : 0 ≤ b) (hb2 : b < n) (hc : 0 ≤ c) (hc2 : c < n) : m_Run X 56 [.inr (.inl 13), .inr (.inl 14), .inl 4, .inl a, .inl b, .inl c] (mW C (.inl (0, 1, .inl g) :: .inl (2, 9, .inr f) :: J)) (m_V (bI (holdsS n tb 4 a b c)) (mW C (.inl (0, 1, .inl g) :: .inl (2, 9, .inr f) :: J))) := by
  have hn := hL.1
  have hl := okN_lo hn
  show m_Sem X 56 (0, [some (.inr (.inl 13)), some (.inr (.inl 14)), some (.inl 4), some (.inl a), some (.inl b), some (.inl c)], [], mW C (.inl (0, 1, .inl g) :: .inl (2, 9, .inr f) :: J), 0, 0) _
  refine m_run 1 (ps' := (1, [some (.inr (.inl 13)), some (.inr (.inl 14)), some (.inl 4), some (.inl a), some (.inl b), some (.inl c)], [.inl 4], mW C (.inl (0, 1, .inl g) :: .inl (2, 9, .inr f) :: J), 0, 0)) rfl ?_
  refine m_if rfl ⟨by omega, by omega⟩ (fun (zc1 : ¬ 4 = 0) => ?_) (fun (zc1 : ¬ ¬ 4 = 0) => absurd zc1 (not_not_intro (by omega)))
  refine m_run 2 (ps' := (28, [some (.inr (.inl 13)), some (.inr (.inl 14)), some (.inl 4), some (.inl a), some (.inl b), some (.inl c)], [.inl 1, .inl 4], mW C (.inl (0, 1, .inl g) :: .inl (2, 9, .inr f) :: J), 0, 0)) rfl ?_
  refine m_icmp rfl ⟨by omega, by omega⟩ ⟨by omega, by omega⟩ (fun (zc2 : ¬ 4 = 1) => ?_) (fun (zc2 : ¬ ¬ 4 = 1) => absurd zc2 (not_not_intro (by omega)))
  refine m_run 2 (ps' := (59, [some (.inr (.inl 13)), some (.inr (.inl 14)), some (.inl 4), some (.inl a), some (.inl b), some (.inl c)], [.inl 2, .inl 4], mW C (.inl (0, 1, .inl g) :: .inl (2, 9, .inr f) :: J), 0, 0)) rfl ?_
  refine m_icmp rfl ⟨by omega, by omega⟩ ⟨by omega, by omega⟩ (fun (zc3 : ¬ 4 = 2) => ?_) (fun (zc3 : ¬ ¬ 4 = 2) => absurd zc3 (not_not_intro (by omega)))
  refine m_run 2 (ps' := (104, [some (.inr (.inl 13)), some (.inr (.inl 14)), some (.inl 4), some (.inl a), some (.inl b), some (.inl c)], [.inl 3, .inl 4], mW C (.inl (0, 1, .inl g) :: .inl (2, 9, .inr f) :: J), 0, 0)) rfl ?_
  refine m_icmp rfl ⟨by omega, by omega⟩ ⟨by omega, by omega⟩ (fun (zc4 : ¬ 4 = 3) => ?_) (fun (zc4 : ¬ ¬ 4 = 3) => absurd zc4 (not_not_intro (by omega)))
  refine m_run 2 (ps' := (150, [some (.inr (.inl 13)), some (.inr (.inl 14)), some (.inl 4), some (.inl a), some (.inl b), some (.inl c)], [.inl 4, .inl 4], mW C (.inl (0, 1, .inl g) :: .inl (2, 9, .inr f) :: J), 0, 0)) rfl ?_
  refine m_icmp rfl ⟨by omega, by omega⟩ ⟨by omega, by omega⟩ (fun (zc5 : ¬ 4 = 4) => absurd zc5 (by omega)) (fun (zc5 : ¬ ¬ 4 = 4) => ?_)
  refine m_run 5 (ps' := (160, [some (.inr (.inl 13)), some (.inr (.inl 14)), some (.inl 4), some (.inl a), some (.inl b), some (.inl c)], [.inl c, .inl b, .inr (.inl 14), .inl a, .inr (.inl 14)], mW C (.inl (0, 1, .inl g) :: .inl (2, 9, .inr f) :: J), 0, 0)) rfl ?_
  refine m_callSF [.inr (.inl 14), .inl b, .inl c] [.inl a, .inr (.inl 14)] rfl rfl rfl (a_of (a := b) (b := c) hL (by omega) (by omega) (by omega) (by omega)) ?_
  have zt1 := (hL.2 b c (by omega) (by omega) (by omega) (by omega)).2
  show m_Sem X 56 (163, [some (.inr (.inl 13)), some (.inr (.inl 14)), some (.inl 4), some (.inl a), some (.inl b), some (.inl c)], [.inl (tb b c), .inl a, .inr (.inl 14)], mW C (.inl (0, 1, .inl g) :: .inl (2, 9, .inr f) :: J), 0, 0) _
  refine m_callSF [.inr (.inl 14), .inl a, .inl (tb b c)] [] rfl rfl rfl (a_of (a := a) (b := (tb b c)) hL (by omega) (by omega) (by omega) (by omega)) ?_
  have zt2 := (hL.2 a (tb b c) (by omega) (by omega) (by omega) (by omega)).2
  show m_Sem X 56 (166, [some (.inr (.inl 13)), some (.inr (.inl 14)), some (.inl 4), some (.inl a), some (.inl b), some (.inl c)], [.inl (tb a (tb b c))], mW C (.inl (0, 1, .inl g) :: .inl (2, 9, .inr f) :: J), 0, 0) _
  refine m_run 4 (ps' := (171, [some (.inr (.inl 13)), some (.inr (.inl 14)), some (.inl 4), some (.inl a), some (.inl b), some (.inl c)], [.inl b, .inl a, .inr (.inl 14), .inr (.inl 14), .inl (tb a (tb b c))], mW C (.inl (0, 1, .inl g) :: .inl (2, 9, .inr f) :: J), 0, 0)) rfl ?_
  refine m_callSF [.inr (.inl 14), .inl a, .inl b] [.inr (.inl 14), .inl (tb a (tb b c))] rfl rfl rfl (a_of (a := a) (b := b) hL (by omega) (by omega) (by omega) (by omega)) ?_
  have zt3 := (hL.2 a b (by omega) (by omega) (by omega) (by omega)).2
  show m_Sem X 56 (174, [some (.inr (.inl 13)), some (.inr (.inl 14)), some (.inl 4), some (.inl a), some (.inl b), some (.inl c)], [.inl (tb a b), .inr (.inl 14), .inl (tb a (tb b c))], mW C (.inl (0, 1, .inl g) :: .inl (2, 9, .inr f) :: J), 0, 0) _
  refine m_run 1 (ps' := (176, [some (.inr (.inl 13)), some (.inr (.inl 14)), some (.inl 4), some (.inl a), some (.inl b), some (.inl c)], [.inl c, .inl (tb a b), .inr (.inl 14), .inl (tb a (tb b c))], mW C (.inl (0, 1, .inl g) :: .inl (2, 9, .inr f) :: J), 0, 0)) rfl ?_
  refine m_callSF [.inr (.inl 14), .inl (tb a b), .inl c] [.inl (tb a (tb b c))] rfl rfl rfl (a_of (a := (tb a b)) (b := c) hL (by omega) (by omega) (by omega) (by omega)) ?_
  have zt4 := (hL.2 (tb a b) c (by omega) (by omega) (by omega) (by omega)).2
  show m_Sem X 56 (179, [some (.inr (.inl 13)), some (.inr (.inl 14)), some (.inl 4), some (.inl a), some (.inl b), some (.inl c)], [.inl (tb (tb a b) c), .inl (tb a (tb b c))], mW C (.inl (0, 1, .inl g) :: .inl (2, 9, .inr f) :: J), 0, 0) _
  refine m_icmp rfl ⟨by omega, by omega⟩ ⟨by omega, by omega⟩ (fun (zc6 : ¬ (tb a (tb b c)) = (tb (tb a b) c)) => ?_) (fun (zc6 : ¬ ¬ (tb a (tb b c)) = (tb (tb a b) c)) => ?_)
  · refine m_run 1 (ps' := (187, [some (.inr (.inl 13)), some (.inr (.inl 14)), some (.inl 4), some (.inl a), some (.inl b), some (.inl c)], [.inl 0], mW C (.inl (0, 1, .inl g) :: .inl (2, 9, .inr f) :: J), 0, 0)) rfl ?_
    exact m_ret1 rfl (Or.inr ⟨rfl, Or.inl rfl⟩) rfl (m_Vb (b0 (Bool.eq_false_iff.mpr (fun h9 => absurd (hs_4.mp h9).symm (by assumption)))))
  · replace zc6 : (tb a (tb b c)) = (tb (tb a b) c) := Decidable.not_not.mp zc6
    refine m_run 2 (ps' := (187, [some (.inr (.inl 13)), some (.inr (.inl 14)), some (.inl 4), some (.inl a), some (.inl b), some (.inl c)], [.inl 1], mW C (.inl (0, 1, .inl g) :: .inl (2, 9, .inr f) :: J), 0, 0)) rfl ?_
    exact m_ret1 rfl (Or.inr ⟨rfl, Or.inr rfl⟩) rfl (m_Vb (b1 (hs_4.mpr (Eq.symm (by assumption)))))
set_option maxHeartbeats 4000000 in
set_option maxRecDepth 100000 in
theorem a_h5 {X : Nat × Nat × (Nat → Int32)} {C : CS} {g : Int → Int} {f : Nat → Int64} {J : mPW} {n : Int} {tb : Int → Int → Int} {a b c : Int} (hg : g 0 = n) (hL : repL n f tb) (ha : 0 ≤ a) (ha2 : a < n) (hb : 0 ≤ b) (hb2 : b < n) (hc : 0 ≤ c) (hc2 : c < n) : m_Run X 56 [.inr (.inl 13), .inr (.inl 14), .inl 5, .inl a, .inl b, .inl c] (mW C (.inl (0, 1, .inl g) :: .inl (2, 9, .inr f) :: J)) (m_V (bI (holdsS n tb 5 a b c)) (mW C (.inl (0, 1, .inl g) :: .inl (2, 9, .inr f) :: J))) := by
  have hn := hL.1
  have hl := okN_lo hn
  show m_Sem X 56 (0, [some (.inr (.inl 13)), some (.inr (.inl 14)), some (.inl 5), some (.inl a), some (.inl b), some (.inl c)], [], mW C (.inl (0, 1, .inl g) :: .inl (2, 9, .inr f) :: J), 0, 0) _
  refine m_run 1 (ps' := (1, [some (.inr (.inl 13)), some (.inr (.inl 14)), some (.inl 5), some (.inl a), some (.inl b), some (.inl c)], [.inl 5], mW C (.inl (0, 1, .inl g) :: .inl (2, 9, .inr f) :: J), 0, 0)) rfl ?_
  refine m_if rfl ⟨by omega, by omega⟩ (fun (zc1 : ¬ 5 = 0) => ?_) (fun (zc1 : ¬ ¬ 5 = 0) => absurd zc1 (not_not_intro (by omega)))
  refine m_run 2 (ps' := (28, [some (.inr (.inl 13)), some (.inr (.inl 14)), some (.inl 5), some (.inl a), some (.inl b), some (.inl c)], [.inl 1, .inl 5], mW C (.inl (0, 1, .inl g) :: .inl (2, 9, .inr f) :: J), 0, 0)) rfl ?_
  refine m_icmp rfl ⟨by omega, by omega⟩ ⟨by omega, by omega⟩ (fun (zc2 : ¬ 5 = 1) => ?_) (fun (zc2 : ¬ ¬ 5 = 1) => absurd zc2 (not_not_intro (by omega)))
  refine m_run 2 (ps' := (59, [some (.inr (.inl 13)), some (.inr (.inl 14)), some (.inl 5), some (.inl a), some (.inl b), some (.inl c)], [.inl 2, .inl 5], mW C (.inl (0, 1, .inl g) :: .inl (2, 9, .inr f) :: J), 0, 0)) rfl ?_
  refine m_icmp rfl ⟨by omega, by omega⟩ ⟨by omega, by omega⟩ (fun (zc3 : ¬ 5 = 2) => ?_) (fun (zc3 : ¬ ¬ 5 = 2) => absurd zc3 (not_not_intro (by omega)))
  refine m_run 2 (ps' := (104, [some (.inr (.inl 13)), some (.inr (.inl 14)), some (.inl 5), some (.inl a), some (.inl b), some (.inl c)], [.inl 3, .inl 5], mW C (.inl (0, 1, .inl g) :: .inl (2, 9, .inr f) :: J), 0, 0)) rfl ?_
  refine m_icmp rfl ⟨by omega, by omega⟩ ⟨by omega, by omega⟩ (fun (zc4 : ¬ 5 = 3) => ?_) (fun (zc4 : ¬ ¬ 5 = 3) => absurd zc4 (not_not_intro (by omega)))
  refine m_run 2 (ps' := (150, [some (.inr (.inl 13)), some (.inr (.inl 14)), some (.inl 5), some (.inl a), some (.inl b), some (.inl c)], [.inl 4, .inl 5], mW C (.inl (0, 1, .inl g) :: .inl (2, 9, .inr f) :: J), 0, 0)) rfl ?_
  refine m_icmp rfl ⟨by omega, by omega⟩ ⟨by omega, by omega⟩ (fun (zc5 : ¬ 5 = 4) => ?_) (fun (zc5 : ¬ ¬ 5 = 4) => absurd zc5 (not_not_intro (by omega)))
  refine m_run 2 (ps' := (190, [some (.inr (.inl 13)), some (.inr (.inl 14)), some (.inl 5), some (.inl a), some (.inl b), some (.inl c)], [.inl 5, .inl 5], mW C (.inl (0, 1, .inl g) :: .inl (2, 9, .inr f) :: J), 0, 0)) rfl ?_
  refine m_icmp rfl ⟨by omega, by omega⟩ ⟨by omega, by omega⟩ (fun (zc6 : ¬ 5 = 5) => absurd zc6 (by omega)) (fun (zc6 : ¬ ¬ 5 = 5) => ?_)
  refine m_run 3 (ps' := (197, [some (.inr (.inl 13)), some (.inr (.inl 14)), some (.inl 5), some (.inl a), some (.inl b), some (.inl c)], [.inl b, .inl a, .inr (.inl 14)], mW C (.inl (0, 1, .inl g) :: .inl (2, 9, .inr f) :: J), 0, 0)) rfl ?_
  refine m_callSF [.inr (.inl 14), .inl a, .inl b] [] rfl rfl rfl (a_of (a := a) (b := b) hL (by omega) (by omega) (by omega) (by omega)) ?_
  have zt1 := (hL.2 a b (by omega) (by omega) (by omega) (by omega)).2
  show m_Sem X 56 (200, [some (.inr (.inl 13)), some (.inr (.inl 14)), some (.inl 5), some (.inl a), some (.inl b), some (.inl c)], [.inl (tb a b)], mW C (.inl (0, 1, .inl g) :: .inl (2, 9, .inr f) :: J), 0, 0) _
  refine m_run 3 (ps' := (204, [some (.inr (.inl 13)), some (.inr (.inl 14)), some (.inl 5), some (.inl a), some (.inl b), some (.inl c)], [.inl a, .inl b, .inr (.inl 14), .inl (tb a b)], mW C (.inl (0, 1, .inl g) :: .inl (2, 9, .inr f) :: J), 0, 0)) rfl ?_
  refine m_callSF [.inr (.inl 14), .inl b, .inl a] [.inl (tb a b)] rfl rfl rfl (a_of (a := b) (b := a) hL (by omega) (by omega) (by omega) (by omega)) ?_
  have zt2 := (hL.2 b a (by omega) (by omega) (by omega) (by omega)).2
  show m_Sem X 56 (207, [some (.inr (.inl 13)), some (.inr (.inl 14)), some (.inl 5), some (.inl a), some (.inl b), some (.inl c)], [.inl (tb b a), .inl (tb a b)], mW C (.inl (0, 1, .inl g) :: .inl (2, 9, .inr f) :: J), 0, 0) _
  refine m_icmp rfl ⟨by omega, by omega⟩ ⟨by omega, by omega⟩ (fun (zc7 : ¬ (tb a b) = (tb b a)) => ?_) (fun (zc7 : ¬ ¬ (tb a b) = (tb b a)) => ?_)
  · refine m_run 2 (ps' := (251, [some (.inr (.inl 13)), some (.inr (.inl 14)), some (.inl 5), some (.inl a), some (.inl b), some (.inl c)], [.inl 0], mW C (.inl (0, 1, .inl g) :: .inl (2, 9, .inr f) :: J), 0, 0)) rfl ?_
    exact m_ret1 rfl (Or.inr ⟨rfl, Or.inl rfl⟩) rfl (m_Vb (b0 (Bool.eq_false_iff.mpr (fun h9 => absurd (hs_5.mp h9) (by omega)))))
  · replace zc7 : (tb a b) = (tb b a) := Decidable.not_not.mp zc7
    refine m_run 2 (ps' := (251, [some (.inr (.inl 13)), some (.inr (.inl 14)), some (.inl 5), some (.inl a), some (.inl b), some (.inl c)], [.inl 1], mW C (.inl (0, 1, .inl g) :: .inl (2, 9, .inr f) :: J), 0, 0)) rfl ?_
    exact m_ret1 rfl (Or.inr ⟨rfl, Or.inr rfl⟩) rfl (m_Vb (b1 (hs_5.mpr (by omega))))
set_option maxHeartbeats 4000000 in
set_option maxRecDepth 100000 in
theorem a_h6 {X : Nat × Nat × (Nat → Int32)} {C : CS} {g : Int → Int} {f : Nat → Int64} {J : mPW} {n : Int} {tb : Int → Int → Int} {a b c : Int} (hg : g 0 = n) (hL : repL n f tb) (ha : 0 ≤ a) (ha2 : a < n) (hb : 0 ≤ b) (hb2 : b < n) (hc : 0 ≤ c) (hc2 : c < n) : m_Run X 56 [.inr (.inl 13), .inr (.inl 14), .inl 6, .inl a, .inl b, .inl c] (mW C (.inl (0, 1, .inl g) :: .inl (2, 9, .inr f) :: J)) (m_V (bI (holdsS n tb 6 a b c)) (mW C (.inl (0, 1, .inl g) :: .inl (2, 9, .inr f) :: J))) := by
  have hn := hL.1
  have hl := okN_lo hn
  show m_Sem X 56 (0, [some (.inr (.inl 13)), some (.inr (.inl 14)), some (.inl 6), some (.inl a), some (.inl b), some (.inl c)], [], mW C (.inl (0, 1, .inl g) :: .inl (2, 9, .inr f) :: J), 0, 0) _
  refine m_run 1 (ps' := (1, [some (.inr (.inl 13)), some (.inr (.inl 14)), some (.inl 6), some (.inl a), some (.inl b), some (.inl c)], [.inl 6], mW C (.inl (0, 1, .inl g) :: .inl (2, 9, .inr f) :: J), 0, 0)) rfl ?_
  refine m_if rfl ⟨by omega, by omega⟩ (fun (zc1 : ¬ 6 = 0) => ?_) (fun (zc1 : ¬ ¬ 6 = 0) => absurd zc1 (not_not_intro (by omega)))
  refine m_run 2 (ps' := (28, [some (.inr (.inl 13)), some (.inr (.inl 14)), some (.inl 6), some (.inl a), some (.inl b), some (.inl c)], [.inl 1, .inl 6], mW C (.inl (0, 1, .inl g) :: .inl (2, 9, .inr f) :: J), 0, 0)) rfl ?_
  refine m_icmp rfl ⟨by omega, by omega⟩ ⟨by omega, by omega⟩ (fun (zc2 : ¬ 6 = 1) => ?_) (fun (zc2 : ¬ ¬ 6 = 1) => absurd zc2 (not_not_intro (by omega)))
  refine m_run 2 (ps' := (59, [some (.inr (.inl 13)), some (.inr (.inl 14)), some (.inl 6), some (.inl a), some (.inl b), some (.inl c)], [.inl 2, .inl 6], mW C (.inl (0, 1, .inl g) :: .inl (2, 9, .inr f) :: J), 0, 0)) rfl ?_
  refine m_icmp rfl ⟨by omega, by omega⟩ ⟨by omega, by omega⟩ (fun (zc3 : ¬ 6 = 2) => ?_) (fun (zc3 : ¬ ¬ 6 = 2) => absurd zc3 (not_not_intro (by omega)))
  refine m_run 2 (ps' := (104, [some (.inr (.inl 13)), some (.inr (.inl 14)), some (.inl 6), some (.inl a), some (.inl b), some (.inl c)], [.inl 3, .inl 6], mW C (.inl (0, 1, .inl g) :: .inl (2, 9, .inr f) :: J), 0, 0)) rfl ?_
  refine m_icmp rfl ⟨by omega, by omega⟩ ⟨by omega, by omega⟩ (fun (zc4 : ¬ 6 = 3) => ?_) (fun (zc4 : ¬ ¬ 6 = 3) => absurd zc4 (not_not_intro (by omega)))
  refine m_run 2 (ps' := (150, [some (.inr (.inl 13)), some (.inr (.inl 14)), some (.inl 6), some (.inl a), some (.inl b), some (.inl c)], [.inl 4, .inl 6], mW C (.inl (0, 1, .inl g) :: .inl (2, 9, .inr f) :: J), 0, 0)) rfl ?_
  refine m_icmp rfl ⟨by omega, by omega⟩ ⟨by omega, by omega⟩ (fun (zc5 : ¬ 6 = 4) => ?_) (fun (zc5 : ¬ ¬ 6 = 4) => absurd zc5 (not_not_intro (by omega)))
  refine m_run 2 (ps' := (190, [some (.inr (.inl 13)), some (.inr (.inl 14)), some (.inl 6), some (.inl a), some (.inl b), some (.inl c)], [.inl 5, .inl 6], mW C (.inl (0, 1, .inl g) :: .inl (2, 9, .inr f) :: J), 0, 0)) rfl ?_
  refine m_icmp rfl ⟨by omega, by omega⟩ ⟨by omega, by omega⟩ (fun (zc6 : ¬ 6 = 5) => ?_) (fun (zc6 : ¬ ¬ 6 = 5) => absurd zc6 (not_not_intro (by omega)))
  refine m_run 2 (ps' := (221, [some (.inr (.inl 13)), some (.inr (.inl 14)), some (.inl 6), some (.inl a), some (.inl b), some (.inl c)], [.inl b, .inl a], mW C (.inl (0, 1, .inl g) :: .inl (2, 9, .inr f) :: J), 0, 0)) rfl ?_
  refine m_icmp rfl ⟨by omega, by omega⟩ ⟨by omega, by omega⟩ (fun (zc7 : a = b) => ?_) (fun (zc7 : ¬ a = b) => ?_)
  · refine m_run 2 (ps' := (251, [some (.inr (.inl 13)), some (.inr (.inl 14)), some (.inl 6), some (.inl a), some (.inl b), some (.inl c)], [.inl 1], mW C (.inl (0, 1, .inl g) :: .inl (2, 9, .inr f) :: J), 0, 0)) rfl ?_
    exact m_ret1 rfl (Or.inr ⟨rfl, Or.inr rfl⟩) rfl (m_Vb (b1 (hs_6.mpr (by first | exact Or.inl (by assumption) | exact Or.inr (by assumption)))))
  · refine m_run 6 (ps' := (232, [some (.inr (.inl 13)), some (.inr (.inl 14)), some (.inl 6), some (.inl a), some (.inl b), some (.inl c)], [.inl 6, .inl 6, .inl b, .inl a, .inr (.inl 14), .inr (.inl 13)], mW C (.inl (0, 1, .inl g) :: .inl (2, 9, .inr f) :: J), 0, 0)) rfl ?_
    refine m_icmp rfl ⟨by omega, by omega⟩ ⟨by omega, by omega⟩ (fun (zc8 : ¬ 6 = 6) => absurd zc8 (by omega)) (fun (zc8 : ¬ ¬ 6 = 6) => ?_)
    refine m_run 2 (ps' := (240, [some (.inr (.inl 13)), some (.inr (.inl 14)), some (.inl 6), some (.inl a), some (.inl b), some (.inl c)], [.inl 1, .inl b, .inl a, .inr (.inl 14), .inr (.inl 13)], mW C (.inl (0, 1, .inl g) :: .inl (2, 9, .inr f) :: J), 0, 0)) rfl ?_
    refine m_callSF [.inr (.inl 13), .inr (.inl 14), .inl a, .inl b, .inl 1] [] rfl rfl rfl (a_unl (a := a) (b := b) (r := true) hg hL (by omega) (by omega) (by omega) (by omega)) ?_
    show m_Sem X 56 (243, [some (.inr (.inl 13)), some (.inr (.inl 14)), some (.inl 6), some (.inl a), some (.inl b), some (.inl c)], [.inl (bI (decide (onceS n tb true a b = n)))], mW C (.inl (0, 1, .inl g) :: .inl (2, 9, .inr f) :: J), 0, 0) _
    refine m_if rfl (bI_R _) (fun (zc9 : (bI (decide (onceS n tb true a b = n))) = 0) => ?_) (fun (zc9 : ¬ (bI (decide (onceS n tb true a b = n))) = 0) => ?_)
    · replace zc9 : (decide (onceS n tb true a b = n)) = false := bI_e0.mp zc9
      refine m_run 1 (ps' := (251, [some (.inr (.inl 13)), some (.inr (.inl 14)), some (.inl 6), some (.inl a), some (.inl b), some (.inl c)], [.inl 0], mW C (.inl (0, 1, .inl g) :: .inl (2, 9, .inr f) :: J), 0, 0)) rfl ?_
      exact m_ret1 rfl (Or.inr ⟨rfl, Or.inl rfl⟩) rfl (m_Vb (b0 (Bool.eq_false_iff.mpr (fun h9 => by rcases hs_6.mp h9 with h8 | h8 <;> simp_all))))
    · replace zc9 : (decide (onceS n tb true a b = n)) = true := bI_n0.mp zc9
      refine m_run 2 (ps' := (251, [some (.inr (.inl 13)), some (.inr (.inl 14)), some (.inl 6), some (.inl a), some (.inl b), some (.inl c)], [.inl 1], mW C (.inl (0, 1, .inl g) :: .inl (2, 9, .inr f) :: J), 0, 0)) rfl ?_
      exact m_ret1 rfl (Or.inr ⟨rfl, Or.inr rfl⟩) rfl (m_Vb (b1 (hs_6.mpr (by first | exact Or.inl (by assumption) | exact Or.inr (by assumption)))))
set_option maxHeartbeats 4000000 in
set_option maxRecDepth 100000 in
theorem a_h7 {X : Nat × Nat × (Nat → Int32)} {C : CS} {g : Int → Int} {f : Nat → Int64} {J : mPW} {n : Int} {tb : Int → Int → Int} {a b c : Int} (hg : g 0 = n) (hL : repL n f tb) (ha : 0 ≤ a) (ha2 : a < n) (hb : 0 ≤ b) (hb2 : b < n) (hc : 0 ≤ c) (hc2 : c < n) : m_Run X 56 [.inr (.inl 13), .inr (.inl 14), .inl 7, .inl a, .inl b, .inl c] (mW C (.inl (0, 1, .inl g) :: .inl (2, 9, .inr f) :: J)) (m_V (bI (holdsS n tb 7 a b c)) (mW C (.inl (0, 1, .inl g) :: .inl (2, 9, .inr f) :: J))) := by
  have hn := hL.1
  have hl := okN_lo hn
  show m_Sem X 56 (0, [some (.inr (.inl 13)), some (.inr (.inl 14)), some (.inl 7), some (.inl a), some (.inl b), some (.inl c)], [], mW C (.inl (0, 1, .inl g) :: .inl (2, 9, .inr f) :: J), 0, 0) _
  refine m_run 1 (ps' := (1, [some (.inr (.inl 13)), some (.inr (.inl 14)), some (.inl 7), some (.inl a), some (.inl b), some (.inl c)], [.inl 7], mW C (.inl (0, 1, .inl g) :: .inl (2, 9, .inr f) :: J), 0, 0)) rfl ?_
  refine m_if rfl ⟨by omega, by omega⟩ (fun (zc1 : ¬ 7 = 0) => ?_) (fun (zc1 : ¬ ¬ 7 = 0) => absurd zc1 (not_not_intro (by omega)))
  refine m_run 2 (ps' := (28, [some (.inr (.inl 13)), some (.inr (.inl 14)), some (.inl 7), some (.inl a), some (.inl b), some (.inl c)], [.inl 1, .inl 7], mW C (.inl (0, 1, .inl g) :: .inl (2, 9, .inr f) :: J), 0, 0)) rfl ?_
  refine m_icmp rfl ⟨by omega, by omega⟩ ⟨by omega, by omega⟩ (fun (zc2 : ¬ 7 = 1) => ?_) (fun (zc2 : ¬ ¬ 7 = 1) => absurd zc2 (not_not_intro (by omega)))
  refine m_run 2 (ps' := (59, [some (.inr (.inl 13)), some (.inr (.inl 14)), some (.inl 7), some (.inl a), some (.inl b), some (.inl c)], [.inl 2, .inl 7], mW C (.inl (0, 1, .inl g) :: .inl (2, 9, .inr f) :: J), 0, 0)) rfl ?_
  refine m_icmp rfl ⟨by omega, by omega⟩ ⟨by omega, by omega⟩ (fun (zc3 : ¬ 7 = 2) => ?_) (fun (zc3 : ¬ ¬ 7 = 2) => absurd zc3 (not_not_intro (by omega)))
  refine m_run 2 (ps' := (104, [some (.inr (.inl 13)), some (.inr (.inl 14)), some (.inl 7), some (.inl a), some (.inl b), some (.inl c)], [.inl 3, .inl 7], mW C (.inl (0, 1, .inl g) :: .inl (2, 9, .inr f) :: J), 0, 0)) rfl ?_
  refine m_icmp rfl ⟨by omega, by omega⟩ ⟨by omega, by omega⟩ (fun (zc4 : ¬ 7 = 3) => ?_) (fun (zc4 : ¬ ¬ 7 = 3) => absurd zc4 (not_not_intro (by omega)))
  refine m_run 2 (ps' := (150, [some (.inr (.inl 13)), some (.inr (.inl 14)), some (.inl 7), some (.inl a), some (.inl b), some (.inl c)], [.inl 4, .inl 7], mW C (.inl (0, 1, .inl g) :: .inl (2, 9, .inr f) :: J), 0, 0)) rfl ?_
  refine m_icmp rfl ⟨by omega, by omega⟩ ⟨by omega, by omega⟩ (fun (zc5 : ¬ 7 = 4) => ?_) (fun (zc5 : ¬ ¬ 7 = 4) => absurd zc5 (not_not_intro (by omega)))
  refine m_run 2 (ps' := (190, [some (.inr (.inl 13)), some (.inr (.inl 14)), some (.inl 7), some (.inl a), some (.inl b), some (.inl c)], [.inl 5, .inl 7], mW C (.inl (0, 1, .inl g) :: .inl (2, 9, .inr f) :: J), 0, 0)) rfl ?_
  refine m_icmp rfl ⟨by omega, by omega⟩ ⟨by omega, by omega⟩ (fun (zc6 : ¬ 7 = 5) => ?_) (fun (zc6 : ¬ ¬ 7 = 5) => absurd zc6 (not_not_intro (by omega)))
  refine m_run 2 (ps' := (221, [some (.inr (.inl 13)), some (.inr (.inl 14)), some (.inl 7), some (.inl a), some (.inl b), some (.inl c)], [.inl b, .inl a], mW C (.inl (0, 1, .inl g) :: .inl (2, 9, .inr f) :: J), 0, 0)) rfl ?_
  refine m_icmp rfl ⟨by omega, by omega⟩ ⟨by omega, by omega⟩ (fun (zc7 : a = b) => ?_) (fun (zc7 : ¬ a = b) => ?_)
  · refine m_run 2 (ps' := (251, [some (.inr (.inl 13)), some (.inr (.inl 14)), some (.inl 7), some (.inl a), some (.inl b), some (.inl c)], [.inl 1], mW C (.inl (0, 1, .inl g) :: .inl (2, 9, .inr f) :: J), 0, 0)) rfl ?_
    exact m_ret1 rfl (Or.inr ⟨rfl, Or.inr rfl⟩) rfl (m_Vb (b1 (hs_7.mpr (by first | exact Or.inl (by assumption) | exact Or.inr (by assumption)))))
  · refine m_run 6 (ps' := (232, [some (.inr (.inl 13)), some (.inr (.inl 14)), some (.inl 7), some (.inl a), some (.inl b), some (.inl c)], [.inl 6, .inl 7, .inl b, .inl a, .inr (.inl 14), .inr (.inl 13)], mW C (.inl (0, 1, .inl g) :: .inl (2, 9, .inr f) :: J), 0, 0)) rfl ?_
    refine m_icmp rfl ⟨by omega, by omega⟩ ⟨by omega, by omega⟩ (fun (zc8 : ¬ 7 = 6) => ?_) (fun (zc8 : ¬ ¬ 7 = 6) => absurd zc8 (not_not_intro (by omega)))
    refine m_run 1 (ps' := (240, [some (.inr (.inl 13)), some (.inr (.inl 14)), some (.inl 7), some (.inl a), some (.inl b), some (.inl c)], [.inl 0, .inl b, .inl a, .inr (.inl 14), .inr (.inl 13)], mW C (.inl (0, 1, .inl g) :: .inl (2, 9, .inr f) :: J), 0, 0)) rfl ?_
    refine m_callSF [.inr (.inl 13), .inr (.inl 14), .inl a, .inl b, .inl 0] [] rfl rfl rfl (a_unl (a := a) (b := b) (r := false) hg hL (by omega) (by omega) (by omega) (by omega)) ?_
    show m_Sem X 56 (243, [some (.inr (.inl 13)), some (.inr (.inl 14)), some (.inl 7), some (.inl a), some (.inl b), some (.inl c)], [.inl (bI (decide (onceS n tb false a b = n)))], mW C (.inl (0, 1, .inl g) :: .inl (2, 9, .inr f) :: J), 0, 0) _
    refine m_if rfl (bI_R _) (fun (zc9 : (bI (decide (onceS n tb false a b = n))) = 0) => ?_) (fun (zc9 : ¬ (bI (decide (onceS n tb false a b = n))) = 0) => ?_)
    · replace zc9 : (decide (onceS n tb false a b = n)) = false := bI_e0.mp zc9
      refine m_run 1 (ps' := (251, [some (.inr (.inl 13)), some (.inr (.inl 14)), some (.inl 7), some (.inl a), some (.inl b), some (.inl c)], [.inl 0], mW C (.inl (0, 1, .inl g) :: .inl (2, 9, .inr f) :: J), 0, 0)) rfl ?_
      exact m_ret1 rfl (Or.inr ⟨rfl, Or.inl rfl⟩) rfl (m_Vb (b0 (Bool.eq_false_iff.mpr (fun h9 => by rcases hs_7.mp h9 with h8 | h8 <;> simp_all))))
    · replace zc9 : (decide (onceS n tb false a b = n)) = true := bI_n0.mp zc9
      refine m_run 2 (ps' := (251, [some (.inr (.inl 13)), some (.inr (.inl 14)), some (.inl 7), some (.inl a), some (.inl b), some (.inl c)], [.inl 1], mW C (.inl (0, 1, .inl g) :: .inl (2, 9, .inr f) :: J), 0, 0)) rfl ?_
      exact m_ret1 rfl (Or.inr ⟨rfl, Or.inr rfl⟩) rfl (m_Vb (b1 (hs_7.mpr (by first | exact Or.inl (by assumption) | exact Or.inr (by assumption)))))
theorem a_hold {X : Nat × Nat × (Nat → Int32)} {C : CS} {g : Int → Int} {f : Nat → Int64} {J : mPW} {n : Int} {tb : Int → Int → Int} {law : Int} {a b c : Int} (hg : g 0 = n) (hL : repL n f tb) (ha : 0 ≤ a) (ha2 : a < n) (hb : 0 ≤ b) (hb2 : b < n) (hc : 0 ≤ c) (hc2 : c < n) (h1 : 0 ≤ law) (h2 : law < 8) : m_Run X 56 [.inr (.inl 13), .inr (.inl 14), .inl law, .inl a, .inl b, .inl c] (mW C (.inl (0, 1, .inl g) :: .inl (2, 9, .inr f) :: J)) (m_V (bI (holdsS n tb law a b c)) (mW C (.inl (0, 1, .inl g) :: .inl (2, 9, .inr f) :: J))) := by
  rcases (show law = 0 ∨ law = 1 ∨ law = 2 ∨ law = 3 ∨ law = 4 ∨ law = 5 ∨ law = 6 ∨ law = 7 by omega) with rfl | rfl | rfl | rfl | rfl | rfl | rfl | rfl
  · exact a_h0 hg hL ha ha2 hb hb2 hc hc2
  · exact a_h1 hg hL ha ha2 hb hb2 hc hc2
  · exact a_h2 hg hL ha ha2 hb hb2 hc hc2
  · exact a_h3 hg hL ha ha2 hb hb2 hc hc2
  · exact a_h4 hg hL ha ha2 hb hb2 hc hc2
  · exact a_h5 hg hL ha ha2 hb hb2 hc hc2
  · exact a_h6 hg hL ha ha2 hb hb2 hc hc2
  · exact a_h7 hg hL ha ha2 hb hb2 hc hc2
theorem told_p {law b c : Int} : toldL law b c = true ↔ (1 < law ∨ b = 0) ∧ ((1 < law ∧ law < 5) ∨ c = 0) := by
  unfold toldL
  simp
theorem cub_b {n : Int} (hn : okN n) : 8 ≤ n * n * n ∧ n * n * n ≤ 729 := by
  unfold okN at hn
  rcases hn with rfl | rfl | rfl | rfl | rfl | rfl <;> decide
theorem dig1 {n k : Int} (hn : okN n) (h1 : 0 ≤ k) (h2 : k < 1000) : 0 ≤ k / n ∧ k / n < 1000 := by
  unfold okN at hn
  rcases hn with rfl | rfl | rfl | rfl | rfl | rfl <;> omega
set_option maxHeartbeats 4000000 in
set_option maxRecDepth 100000 in
theorem a_witL {X : Nat × Nat × (Nat → Int32)} {C : CS} {g : Int → Int} {f : Nat → Int64} {J : mPW} {n : Int} {tb : Int → Int → Int} {law : Int} (hg : g 0 = n) (hL : repL n f tb) (hw : 0 ≤ law) (hw2 : law < 8) : ∀ kv : Int, 0 ≤ kv → kv ≤ (n * n * n) → ∀ (hp : ∀ k2, 0 ≤ k2 → k2 < kv → passL n tb law k2), m_Sem X 57 (7, [some (.inr (.inl 13)), some (.inr (.inl 14)), some (.inl law), some (.inl n), some (.inl kv), none, none, none, none], [], mW C (.inl (0, 1, .inl g) :: .inl (2, 9, .inr f) :: J), 0, 0) (m_V (wcdL (witS n tb law)) (mW C (.inl (0, 1, .inl g) :: .inl (2, 9, .inr f) :: J))) := by
  have hn := hL.1
  have hl := okN_lo hn
  have hq := sq_b hn
  have hq3 := cub_b hn
  refine m_down 0 (n * n * n) ?_ ?_
  · intro hp
    show m_Sem X 57 (7, [some (.inr (.inl 13)), some (.inr (.inl 14)), some (.inl law), some (.inl n), some (.inl (n * n * n)), none, none, none, none], [], mW C (.inl (0, 1, .inl g) :: .inl (2, 9, .inr f) :: J), 0, 0) _
    refine m_run 6 (ps' := (14, [some (.inr (.inl 13)), some (.inr (.inl 14)), some (.inl law), some (.inl n), some (.inl (n * n * n)), none, none, none, none], [.inl ((n * n) * n), .inl (n * n * n)], mW C (.inl (0, 1, .inl g) :: .inl (2, 9, .inr f) :: J), 0, 0)) rfl ?_
    refine m_icmp rfl ⟨by omega, by omega⟩ ⟨by omega, by omega⟩ (fun (zc1 : ((n * n) * n) ≤ (n * n * n)) => ?_) (fun (zc1 : ¬ ((n * n) * n) ≤ (n * n * n)) => absurd zc1 (not_not_intro (by omega)))
    refine m_run 1 (ps' := (113, [some (.inr (.inl 13)), some (.inr (.inl 14)), some (.inl law), some (.inl n), some (.inl (n * n * n)), none, none, none, none], [.inl (-1)], mW C (.inl (0, 1, .inl g) :: .inl (2, 9, .inr f) :: J), 0, 0)) rfl ?_
    exact m_ret1 rfl (Or.inl rfl) rfl (m_Vi (by rw [scan_none hn hp]; rfl))
  · intro kv hi1 hi2 ih hp
    obtain ⟨⟨d1, d2⟩, ⟨d3, d4⟩, d5, d6⟩ := dig3 hn hi1 hi2
    have d7 := dig1 hn hi1 (by omega)
    refine m_run 6 (ps' := (14, [some (.inr (.inl 13)), some (.inr (.inl 14)), some (.inl law), some (.inl n), some (.inl kv), none, none, none, none], [.inl ((n * n) * n), .inl kv], mW C (.inl (0, 1, .inl g) :: .inl (2, 9, .inr f) :: J), 0, 0)) rfl ?_
    refine m_icmp rfl ⟨by omega, by omega⟩ ⟨by omega, by omega⟩ (fun (zc1 : ((n * n) * n) ≤ kv) => absurd zc1 (by omega)) (fun (zc1 : ¬ ((n * n) * n) ≤ kv) => ?_)
    refine m_run 2 (ps' := (20, [some (.inr (.inl 13)), some (.inr (.inl 14)), some (.inl law), some (.inl n), some (.inl kv), none, none, none, none], [.inl n, .inl kv], mW C (.inl (0, 1, .inl g) :: .inl (2, 9, .inr f) :: J), 0, 0)) rfl ?_
    refine m_div rfl (by omega) (by omega) (by omega) (by omega) ?_
    refine m_run 1 (ps' := (22, [some (.inr (.inl 13)), some (.inr (.inl 14)), some (.inl law), some (.inl n), some (.inl kv), none, none, none, none], [.inl n, .inl (kv / n)], mW C (.inl (0, 1, .inl g) :: .inl (2, 9, .inr f) :: J), 0, 0)) rfl ?_
    refine m_div rfl (by omega) (by omega) (by omega) (by omega) ?_
    refine m_run 3 (ps' := (28, [some (.inr (.inl 13)), some (.inr (.inl 14)), some (.inl law), some (.inl n), some (.inl kv), some (.inl ((kv / n) / n)), none, none, none], [.inl n, .inl kv], mW C (.inl (0, 1, .inl g) :: .inl (2, 9, .inr f) :: J), 0, 0)) rfl ?_
    refine m_div rfl (by omega) (by omega) (by omega) (by omega) ?_
    refine m_run 1 (ps' := (30, [some (.inr (.inl 13)), some (.inr (.inl 14)), some (.inl law), some (.inl n), some (.inl kv), some (.inl ((kv / n) / n)), none, none, none], [.inl n, .inl (kv / n)], mW C (.inl (0, 1, .inl g) :: .inl (2, 9, .inr f) :: J), 0, 0)) rfl ?_
    refine m_rem rfl (by omega) (by omega) (by omega) (by omega) ?_
    refine m_run 3 (ps' := (36, [some (.inr (.inl 13)), some (.inr (.inl 14)), some (.inl law), some (.inl n), some (.inl kv), some (.inl ((kv / n) / n)), some (.inl ((kv / n) % n)), none, none], [.inl n, .inl kv], mW C (.inl (0, 1, .inl g) :: .inl (2, 9, .inr f) :: J), 0, 0)) rfl ?_
    refine m_rem rfl (by omega) (by omega) (by omega) (by omega) ?_
    refine m_run 3 (ps' := (41, [some (.inr (.inl 13)), some (.inr (.inl 14)), some (.inl law), some (.inl n), some (.inl kv), some (.inl ((kv / n) / n)), some (.inl ((kv / n) % n)), some (.inl (kv % n)), none], [.inl 1, .inl law], mW C (.inl (0, 1, .inl g) :: .inl (2, 9, .inr f) :: J), 0, 0)) rfl ?_
    refine m_icmp rfl ⟨by omega, by omega⟩ ⟨by omega, by omega⟩ (fun (zc2 : 1 < law) => ?_) (fun (zc2 : ¬ 1 < law) => ?_)
    · refine m_run 2 (ps' := (51, [some (.inr (.inl 13)), some (.inr (.inl 14)), some (.inl law), some (.inl n), some (.inl kv), some (.inl ((kv / n) / n)), some (.inl ((kv / n) % n)), some (.inl (kv % n)), none], [.inl 1, .inl law], mW C (.inl (0, 1, .inl g) :: .inl (2, 9, .inr f) :: J), 0, 0)) rfl ?_
      refine m_icmp rfl ⟨by omega, by omega⟩ ⟨by omega, by omega⟩ (fun (zc3 : law ≤ 1) => ?_) (fun (zc3 : ¬ law ≤ 1) => ?_)
      · refine m_run 1 (ps' := (61, [some (.inr (.inl 13)), some (.inr (.inl 14)), some (.inl law), some (.inl n), some (.inl kv), some (.inl ((kv / n) / n)), some (.inl ((kv / n) % n)), some (.inl (kv % n)), none], [.inl (kv % n)], mW C (.inl (0, 1, .inl g) :: .inl (2, 9, .inr f) :: J), 0, 0)) rfl ?_
        refine m_if rfl ⟨by omega, by omega⟩ (fun (zc4 : ¬ (kv % n) = 0) => ?_) (fun (zc4 : ¬ ¬ (kv % n) = 0) => ?_)
        · refine m_run 3 (ps' := (73, [some (.inr (.inl 13)), some (.inr (.inl 14)), some (.inl law), some (.inl n), some (.inl kv), some (.inl ((kv / n) / n)), some (.inl ((kv / n) % n)), some (.inl (kv % n)), some (.inl 0)], [.inl 0], mW C (.inl (0, 1, .inl g) :: .inl (2, 9, .inr f) :: J), 0, 0)) rfl ?_
          refine m_if rfl ⟨by omega, by omega⟩ (fun (zc5 : 0 = 0) => ?_) (fun (zc5 : ¬ 0 = 0) => absurd zc5 (not_not_intro (by omega)))
          refine m_run 2 (ps' := (7, [some (.inr (.inl 13)), some (.inr (.inl 14)), some (.inl law), some (.inl n), some (.inl (kv + 1)), some (.inl ((kv / n) / n)), some (.inl ((kv / n) % n)), some (.inl (kv % n)), some (.inl 0)], [], mW C (.inl (0, 1, .inl g) :: .inl (2, 9, .inr f) :: J), 0, 0)) rfl ?_
          refine m_weak [some (.inr (.inl 13)), some (.inr (.inl 14)), some (.inl law), some (.inl n), some (.inl (kv + 1)), none, none, none, none] ⟨rfl, ⟨rfl, ⟨rfl, ⟨rfl, ⟨rfl, trivial⟩⟩⟩⟩⟩ ?_
          refine ih (fun k2 g1 g2 => ?_)
          by_cases he : k2 = kv
          · subst he
            intro h9
            first
            | assumption
            | exact absurd (told_p.mp h9) (by omega)
          · exact hp k2 g1 (by omega)
        · replace zc4 : (kv % n) = 0 := Decidable.not_not.mp zc4
          refine m_run 4 (ps' := (73, [some (.inr (.inl 13)), some (.inr (.inl 14)), some (.inl law), some (.inl n), some (.inl kv), some (.inl ((kv / n) / n)), some (.inl ((kv / n) % n)), some (.inl (kv % n)), some (.inl 1)], [.inl 1], mW C (.inl (0, 1, .inl g) :: .inl (2, 9, .inr f) :: J), 0, 0)) rfl ?_
          refine m_if rfl ⟨by omega, by omega⟩ (fun (zc5 : 1 = 0) => absurd zc5 (by omega)) (fun (zc5 : ¬ 1 = 0) => ?_)
          refine m_run 6 (ps' := (85, [some (.inr (.inl 13)), some (.inr (.inl 14)), some (.inl law), some (.inl n), some (.inl kv), some (.inl ((kv / n) / n)), some (.inl ((kv / n) % n)), some (.inl (kv % n)), some (.inl 1)], [.inl (kv % n), .inl ((kv / n) % n), .inl ((kv / n) / n), .inl law, .inr (.inl 14), .inr (.inl 13)], mW C (.inl (0, 1, .inl g) :: .inl (2, 9, .inr f) :: J), 0, 0)) rfl ?_
          refine m_callSF [.inr (.inl 13), .inr (.inl 14), .inl law, .inl ((kv / n) / n), .inl ((kv / n) % n), .inl (kv % n)] [] rfl rfl rfl (a_hold (law := law) (a := ((kv / n) / n)) (b := ((kv / n) % n)) (c := (kv % n)) hg hL (by omega) (by omega) (by omega) (by omega) (by omega) (by omega) (by omega) (by omega)) ?_
          show m_Sem X 57 (88, [some (.inr (.inl 13)), some (.inr (.inl 14)), some (.inl law), some (.inl n), some (.inl kv), some (.inl ((kv / n) / n)), some (.inl ((kv / n) % n)), some (.inl (kv % n)), some (.inl 1)], [.inl (bI (holdsS n tb law ((kv / n) / n) ((kv / n) % n) (kv % n)))], mW C (.inl (0, 1, .inl g) :: .inl (2, 9, .inr f) :: J), 0, 0) _
          refine m_if rfl (bI_R _) (fun (zc6 : ¬ (bI (holdsS n tb law ((kv / n) / n) ((kv / n) % n) (kv % n))) = 0) => ?_) (fun (zc6 : ¬ ¬ (bI (holdsS n tb law ((kv / n) / n) ((kv / n) % n) (kv % n))) = 0) => ?_)
          · replace zc6 : (holdsS n tb law ((kv / n) / n) ((kv / n) % n) (kv % n)) = true := bI_n0.mp zc6
            refine m_run 2 (ps' := (7, [some (.inr (.inl 13)), some (.inr (.inl 14)), some (.inl law), some (.inl n), some (.inl (kv + 1)), some (.inl ((kv / n) / n)), some (.inl ((kv / n) % n)), some (.inl (kv % n)), some (.inl 1)], [], mW C (.inl (0, 1, .inl g) :: .inl (2, 9, .inr f) :: J), 0, 0)) rfl ?_
            refine m_weak [some (.inr (.inl 13)), some (.inr (.inl 14)), some (.inl law), some (.inl n), some (.inl (kv + 1)), none, none, none, none] ⟨rfl, ⟨rfl, ⟨rfl, ⟨rfl, ⟨rfl, trivial⟩⟩⟩⟩⟩ ?_
            refine ih (fun k2 g1 g2 => ?_)
            by_cases he : k2 = kv
            · subst he
              intro h9
              first
              | assumption
              | exact absurd (told_p.mp h9) (by omega)
            · exact hp k2 g1 (by omega)
          · replace zc6 : (holdsS n tb law ((kv / n) / n) ((kv / n) % n) (kv % n)) = false := bI_e0.mp (Decidable.not_not.mp zc6)
            refine m_run 9 (ps' := (105, [some (.inr (.inl 13)), some (.inr (.inl 14)), some (.inl law), some (.inl n), some (.inl kv), some (.inl ((kv / n) / n)), some (.inl ((kv / n) % n)), some (.inl (kv % n)), some (.inl 1)], [.inl (((100 * ((kv / n) / n)) + (10 * ((kv / n) % n))) + (kv % n))], mW C (.inl (0, 1, .inl g) :: .inl (2, 9, .inr f) :: J), 0, 0)) rfl ?_
            exact m_ret1 rfl (Or.inl rfl) rfl (m_Vi (by rw [scan_some hn hi1 hi2 (told_p.mpr (by omega)) (by assumption) hp]; rfl))
      · refine m_run 2 (ps' := (56, [some (.inr (.inl 13)), some (.inr (.inl 14)), some (.inl law), some (.inl n), some (.inl kv), some (.inl ((kv / n) / n)), some (.inl ((kv / n) % n)), some (.inl (kv % n)), none], [.inl 5, .inl law], mW C (.inl (0, 1, .inl g) :: .inl (2, 9, .inr f) :: J), 0, 0)) rfl ?_
        refine m_icmp rfl ⟨by omega, by omega⟩ ⟨by omega, by omega⟩ (fun (zc4 : law < 5) => ?_) (fun (zc4 : ¬ law < 5) => ?_)
        · refine m_run 4 (ps' := (73, [some (.inr (.inl 13)), some (.inr (.inl 14)), some (.inl law), some (.inl n), some (.inl kv), some (.inl ((kv / n) / n)), some (.inl ((kv / n) % n)), some (.inl (kv % n)), some (.inl 1)], [.inl 1], mW C (.inl (0, 1, .inl g) :: .inl (2, 9, .inr f) :: J), 0, 0)) rfl ?_
          refine m_if rfl ⟨by omega, by omega⟩ (fun (zc5 : 1 = 0) => absurd zc5 (by omega)) (fun (zc5 : ¬ 1 = 0) => ?_)
          refine m_run 6 (ps' := (85, [some (.inr (.inl 13)), some (.inr (.inl 14)), some (.inl law), some (.inl n), some (.inl kv), some (.inl ((kv / n) / n)), some (.inl ((kv / n) % n)), some (.inl (kv % n)), some (.inl 1)], [.inl (kv % n), .inl ((kv / n) % n), .inl ((kv / n) / n), .inl law, .inr (.inl 14), .inr (.inl 13)], mW C (.inl (0, 1, .inl g) :: .inl (2, 9, .inr f) :: J), 0, 0)) rfl ?_
          refine m_callSF [.inr (.inl 13), .inr (.inl 14), .inl law, .inl ((kv / n) / n), .inl ((kv / n) % n), .inl (kv % n)] [] rfl rfl rfl (a_hold (law := law) (a := ((kv / n) / n)) (b := ((kv / n) % n)) (c := (kv % n)) hg hL (by omega) (by omega) (by omega) (by omega) (by omega) (by omega) (by omega) (by omega)) ?_
          show m_Sem X 57 (88, [some (.inr (.inl 13)), some (.inr (.inl 14)), some (.inl law), some (.inl n), some (.inl kv), some (.inl ((kv / n) / n)), some (.inl ((kv / n) % n)), some (.inl (kv % n)), some (.inl 1)], [.inl (bI (holdsS n tb law ((kv / n) / n) ((kv / n) % n) (kv % n)))], mW C (.inl (0, 1, .inl g) :: .inl (2, 9, .inr f) :: J), 0, 0) _
          refine m_if rfl (bI_R _) (fun (zc6 : ¬ (bI (holdsS n tb law ((kv / n) / n) ((kv / n) % n) (kv % n))) = 0) => ?_) (fun (zc6 : ¬ ¬ (bI (holdsS n tb law ((kv / n) / n) ((kv / n) % n) (kv % n))) = 0) => ?_)
          · replace zc6 : (holdsS n tb law ((kv / n) / n) ((kv / n) % n) (kv % n)) = true := bI_n0.mp zc6
            refine m_run 2 (ps' := (7, [some (.inr (.inl 13)), some (.inr (.inl 14)), some (.inl law), some (.inl n), some (.inl (kv + 1)), some (.inl ((kv / n) / n)), some (.inl ((kv / n) % n)), some (.inl (kv % n)), some (.inl 1)], [], mW C (.inl (0, 1, .inl g) :: .inl (2, 9, .inr f) :: J), 0, 0)) rfl ?_
            refine m_weak [some (.inr (.inl 13)), some (.inr (.inl 14)), some (.inl law), some (.inl n), some (.inl (kv + 1)), none, none, none, none] ⟨rfl, ⟨rfl, ⟨rfl, ⟨rfl, ⟨rfl, trivial⟩⟩⟩⟩⟩ ?_
            refine ih (fun k2 g1 g2 => ?_)
            by_cases he : k2 = kv
            · subst he
              intro h9
              first
              | assumption
              | exact absurd (told_p.mp h9) (by omega)
            · exact hp k2 g1 (by omega)
          · replace zc6 : (holdsS n tb law ((kv / n) / n) ((kv / n) % n) (kv % n)) = false := bI_e0.mp (Decidable.not_not.mp zc6)
            refine m_run 9 (ps' := (105, [some (.inr (.inl 13)), some (.inr (.inl 14)), some (.inl law), some (.inl n), some (.inl kv), some (.inl ((kv / n) / n)), some (.inl ((kv / n) % n)), some (.inl (kv % n)), some (.inl 1)], [.inl (((100 * ((kv / n) / n)) + (10 * ((kv / n) % n))) + (kv % n))], mW C (.inl (0, 1, .inl g) :: .inl (2, 9, .inr f) :: J), 0, 0)) rfl ?_
            exact m_ret1 rfl (Or.inl rfl) rfl (m_Vi (by rw [scan_some hn hi1 hi2 (told_p.mpr (by omega)) (by assumption) hp]; rfl))
        · refine m_run 1 (ps' := (61, [some (.inr (.inl 13)), some (.inr (.inl 14)), some (.inl law), some (.inl n), some (.inl kv), some (.inl ((kv / n) / n)), some (.inl ((kv / n) % n)), some (.inl (kv % n)), none], [.inl (kv % n)], mW C (.inl (0, 1, .inl g) :: .inl (2, 9, .inr f) :: J), 0, 0)) rfl ?_
          refine m_if rfl ⟨by omega, by omega⟩ (fun (zc5 : ¬ (kv % n) = 0) => ?_) (fun (zc5 : ¬ ¬ (kv % n) = 0) => ?_)
          · refine m_run 3 (ps' := (73, [some (.inr (.inl 13)), some (.inr (.inl 14)), some (.inl law), some (.inl n), some (.inl kv), some (.inl ((kv / n) / n)), some (.inl ((kv / n) % n)), some (.inl (kv % n)), some (.inl 0)], [.inl 0], mW C (.inl (0, 1, .inl g) :: .inl (2, 9, .inr f) :: J), 0, 0)) rfl ?_
            refine m_if rfl ⟨by omega, by omega⟩ (fun (zc6 : 0 = 0) => ?_) (fun (zc6 : ¬ 0 = 0) => absurd zc6 (not_not_intro (by omega)))
            refine m_run 2 (ps' := (7, [some (.inr (.inl 13)), some (.inr (.inl 14)), some (.inl law), some (.inl n), some (.inl (kv + 1)), some (.inl ((kv / n) / n)), some (.inl ((kv / n) % n)), some (.inl (kv % n)), some (.inl 0)], [], mW C (.inl (0, 1, .inl g) :: .inl (2, 9, .inr f) :: J), 0, 0)) rfl ?_
            refine m_weak [some (.inr (.inl 13)), some (.inr (.inl 14)), some (.inl law), some (.inl n), some (.inl (kv + 1)), none, none, none, none] ⟨rfl, ⟨rfl, ⟨rfl, ⟨rfl, ⟨rfl, trivial⟩⟩⟩⟩⟩ ?_
            refine ih (fun k2 g1 g2 => ?_)
            by_cases he : k2 = kv
            · subst he
              intro h9
              first
              | assumption
              | exact absurd (told_p.mp h9) (by omega)
            · exact hp k2 g1 (by omega)
          · replace zc5 : (kv % n) = 0 := Decidable.not_not.mp zc5
            refine m_run 4 (ps' := (73, [some (.inr (.inl 13)), some (.inr (.inl 14)), some (.inl law), some (.inl n), some (.inl kv), some (.inl ((kv / n) / n)), some (.inl ((kv / n) % n)), some (.inl (kv % n)), some (.inl 1)], [.inl 1], mW C (.inl (0, 1, .inl g) :: .inl (2, 9, .inr f) :: J), 0, 0)) rfl ?_
            refine m_if rfl ⟨by omega, by omega⟩ (fun (zc6 : 1 = 0) => absurd zc6 (by omega)) (fun (zc6 : ¬ 1 = 0) => ?_)
            refine m_run 6 (ps' := (85, [some (.inr (.inl 13)), some (.inr (.inl 14)), some (.inl law), some (.inl n), some (.inl kv), some (.inl ((kv / n) / n)), some (.inl ((kv / n) % n)), some (.inl (kv % n)), some (.inl 1)], [.inl (kv % n), .inl ((kv / n) % n), .inl ((kv / n) / n), .inl law, .inr (.inl 14), .inr (.inl 13)], mW C (.inl (0, 1, .inl g) :: .inl (2, 9, .inr f) :: J), 0, 0)) rfl ?_
            refine m_callSF [.inr (.inl 13), .inr (.inl 14), .inl law, .inl ((kv / n) / n), .inl ((kv / n) % n), .inl (kv % n)] [] rfl rfl rfl (a_hold (law := law) (a := ((kv / n) / n)) (b := ((kv / n) % n)) (c := (kv % n)) hg hL (by omega) (by omega) (by omega) (by omega) (by omega) (by omega) (by omega) (by omega)) ?_
            show m_Sem X 57 (88, [some (.inr (.inl 13)), some (.inr (.inl 14)), some (.inl law), some (.inl n), some (.inl kv), some (.inl ((kv / n) / n)), some (.inl ((kv / n) % n)), some (.inl (kv % n)), some (.inl 1)], [.inl (bI (holdsS n tb law ((kv / n) / n) ((kv / n) % n) (kv % n)))], mW C (.inl (0, 1, .inl g) :: .inl (2, 9, .inr f) :: J), 0, 0) _
            refine m_if rfl (bI_R _) (fun (zc7 : ¬ (bI (holdsS n tb law ((kv / n) / n) ((kv / n) % n) (kv % n))) = 0) => ?_) (fun (zc7 : ¬ ¬ (bI (holdsS n tb law ((kv / n) / n) ((kv / n) % n) (kv % n))) = 0) => ?_)
            · replace zc7 : (holdsS n tb law ((kv / n) / n) ((kv / n) % n) (kv % n)) = true := bI_n0.mp zc7
              refine m_run 2 (ps' := (7, [some (.inr (.inl 13)), some (.inr (.inl 14)), some (.inl law), some (.inl n), some (.inl (kv + 1)), some (.inl ((kv / n) / n)), some (.inl ((kv / n) % n)), some (.inl (kv % n)), some (.inl 1)], [], mW C (.inl (0, 1, .inl g) :: .inl (2, 9, .inr f) :: J), 0, 0)) rfl ?_
              refine m_weak [some (.inr (.inl 13)), some (.inr (.inl 14)), some (.inl law), some (.inl n), some (.inl (kv + 1)), none, none, none, none] ⟨rfl, ⟨rfl, ⟨rfl, ⟨rfl, ⟨rfl, trivial⟩⟩⟩⟩⟩ ?_
              refine ih (fun k2 g1 g2 => ?_)
              by_cases he : k2 = kv
              · subst he
                intro h9
                first
                | assumption
                | exact absurd (told_p.mp h9) (by omega)
              · exact hp k2 g1 (by omega)
            · replace zc7 : (holdsS n tb law ((kv / n) / n) ((kv / n) % n) (kv % n)) = false := bI_e0.mp (Decidable.not_not.mp zc7)
              refine m_run 9 (ps' := (105, [some (.inr (.inl 13)), some (.inr (.inl 14)), some (.inl law), some (.inl n), some (.inl kv), some (.inl ((kv / n) / n)), some (.inl ((kv / n) % n)), some (.inl (kv % n)), some (.inl 1)], [.inl (((100 * ((kv / n) / n)) + (10 * ((kv / n) % n))) + (kv % n))], mW C (.inl (0, 1, .inl g) :: .inl (2, 9, .inr f) :: J), 0, 0)) rfl ?_
              exact m_ret1 rfl (Or.inl rfl) rfl (m_Vi (by rw [scan_some hn hi1 hi2 (told_p.mpr (by omega)) (by assumption) hp]; rfl))
    · refine m_run 1 (ps' := (46, [some (.inr (.inl 13)), some (.inr (.inl 14)), some (.inl law), some (.inl n), some (.inl kv), some (.inl ((kv / n) / n)), some (.inl ((kv / n) % n)), some (.inl (kv % n)), none], [.inl ((kv / n) % n)], mW C (.inl (0, 1, .inl g) :: .inl (2, 9, .inr f) :: J), 0, 0)) rfl ?_
      refine m_if rfl ⟨by omega, by omega⟩ (fun (zc3 : ¬ ((kv / n) % n) = 0) => ?_) (fun (zc3 : ¬ ¬ ((kv / n) % n) = 0) => ?_)
      · refine m_run 3 (ps' := (73, [some (.inr (.inl 13)), some (.inr (.inl 14)), some (.inl law), some (.inl n), some (.inl kv), some (.inl ((kv / n) / n)), some (.inl ((kv / n) % n)), some (.inl (kv % n)), some (.inl 0)], [.inl 0], mW C (.inl (0, 1, .inl g) :: .inl (2, 9, .inr f) :: J), 0, 0)) rfl ?_
        refine m_if rfl ⟨by omega, by omega⟩ (fun (zc4 : 0 = 0) => ?_) (fun (zc4 : ¬ 0 = 0) => absurd zc4 (not_not_intro (by omega)))
        refine m_run 2 (ps' := (7, [some (.inr (.inl 13)), some (.inr (.inl 14)), some (.inl law), some (.inl n), some (.inl (kv + 1)), some (.inl ((kv / n) / n)), some (.inl ((kv / n) % n)), some (.inl (kv % n)), some (.inl 0)], [], mW C (.inl (0, 1, .inl g) :: .inl (2, 9, .inr f) :: J), 0, 0)) rfl ?_
        refine m_weak [some (.inr (.inl 13)), some (.inr (.inl 14)), some (.inl law), some (.inl n), some (.inl (kv + 1)), none, none, none, none] ⟨rfl, ⟨rfl, ⟨rfl, ⟨rfl, ⟨rfl, trivial⟩⟩⟩⟩⟩ ?_
        refine ih (fun k2 g1 g2 => ?_)
        by_cases he : k2 = kv
        · subst he
          intro h9
          first
          | assumption
          | exact absurd (told_p.mp h9) (by omega)
        · exact hp k2 g1 (by omega)
      · replace zc3 : ((kv / n) % n) = 0 := Decidable.not_not.mp zc3
        refine m_run 2 (ps' := (51, [some (.inr (.inl 13)), some (.inr (.inl 14)), some (.inl law), some (.inl n), some (.inl kv), some (.inl ((kv / n) / n)), some (.inl ((kv / n) % n)), some (.inl (kv % n)), none], [.inl 1, .inl law], mW C (.inl (0, 1, .inl g) :: .inl (2, 9, .inr f) :: J), 0, 0)) rfl ?_
        refine m_icmp rfl ⟨by omega, by omega⟩ ⟨by omega, by omega⟩ (fun (zc4 : law ≤ 1) => ?_) (fun (zc4 : ¬ law ≤ 1) => ?_)
        · refine m_run 1 (ps' := (61, [some (.inr (.inl 13)), some (.inr (.inl 14)), some (.inl law), some (.inl n), some (.inl kv), some (.inl ((kv / n) / n)), some (.inl ((kv / n) % n)), some (.inl (kv % n)), none], [.inl (kv % n)], mW C (.inl (0, 1, .inl g) :: .inl (2, 9, .inr f) :: J), 0, 0)) rfl ?_
          refine m_if rfl ⟨by omega, by omega⟩ (fun (zc5 : ¬ (kv % n) = 0) => ?_) (fun (zc5 : ¬ ¬ (kv % n) = 0) => ?_)
          · refine m_run 3 (ps' := (73, [some (.inr (.inl 13)), some (.inr (.inl 14)), some (.inl law), some (.inl n), some (.inl kv), some (.inl ((kv / n) / n)), some (.inl ((kv / n) % n)), some (.inl (kv % n)), some (.inl 0)], [.inl 0], mW C (.inl (0, 1, .inl g) :: .inl (2, 9, .inr f) :: J), 0, 0)) rfl ?_
            refine m_if rfl ⟨by omega, by omega⟩ (fun (zc6 : 0 = 0) => ?_) (fun (zc6 : ¬ 0 = 0) => absurd zc6 (not_not_intro (by omega)))
            refine m_run 2 (ps' := (7, [some (.inr (.inl 13)), some (.inr (.inl 14)), some (.inl law), some (.inl n), some (.inl (kv + 1)), some (.inl ((kv / n) / n)), some (.inl ((kv / n) % n)), some (.inl (kv % n)), some (.inl 0)], [], mW C (.inl (0, 1, .inl g) :: .inl (2, 9, .inr f) :: J), 0, 0)) rfl ?_
            refine m_weak [some (.inr (.inl 13)), some (.inr (.inl 14)), some (.inl law), some (.inl n), some (.inl (kv + 1)), none, none, none, none] ⟨rfl, ⟨rfl, ⟨rfl, ⟨rfl, ⟨rfl, trivial⟩⟩⟩⟩⟩ ?_
            refine ih (fun k2 g1 g2 => ?_)
            by_cases he : k2 = kv
            · subst he
              intro h9
              first
              | assumption
              | exact absurd (told_p.mp h9) (by omega)
            · exact hp k2 g1 (by omega)
          · replace zc5 : (kv % n) = 0 := Decidable.not_not.mp zc5
            refine m_run 4 (ps' := (73, [some (.inr (.inl 13)), some (.inr (.inl 14)), some (.inl law), some (.inl n), some (.inl kv), some (.inl ((kv / n) / n)), some (.inl ((kv / n) % n)), some (.inl (kv % n)), some (.inl 1)], [.inl 1], mW C (.inl (0, 1, .inl g) :: .inl (2, 9, .inr f) :: J), 0, 0)) rfl ?_
            refine m_if rfl ⟨by omega, by omega⟩ (fun (zc6 : 1 = 0) => absurd zc6 (by omega)) (fun (zc6 : ¬ 1 = 0) => ?_)
            refine m_run 6 (ps' := (85, [some (.inr (.inl 13)), some (.inr (.inl 14)), some (.inl law), some (.inl n), some (.inl kv), some (.inl ((kv / n) / n)), some (.inl ((kv / n) % n)), some (.inl (kv % n)), some (.inl 1)], [.inl (kv % n), .inl ((kv / n) % n), .inl ((kv / n) / n), .inl law, .inr (.inl 14), .inr (.inl 13)], mW C (.inl (0, 1, .inl g) :: .inl (2, 9, .inr f) :: J), 0, 0)) rfl ?_
            refine m_callSF [.inr (.inl 13), .inr (.inl 14), .inl law, .inl ((kv / n) / n), .inl ((kv / n) % n), .inl (kv % n)] [] rfl rfl rfl (a_hold (law := law) (a := ((kv / n) / n)) (b := ((kv / n) % n)) (c := (kv % n)) hg hL (by omega) (by omega) (by omega) (by omega) (by omega) (by omega) (by omega) (by omega)) ?_
            show m_Sem X 57 (88, [some (.inr (.inl 13)), some (.inr (.inl 14)), some (.inl law), some (.inl n), some (.inl kv), some (.inl ((kv / n) / n)), some (.inl ((kv / n) % n)), some (.inl (kv % n)), some (.inl 1)], [.inl (bI (holdsS n tb law ((kv / n) / n) ((kv / n) % n) (kv % n)))], mW C (.inl (0, 1, .inl g) :: .inl (2, 9, .inr f) :: J), 0, 0) _
            refine m_if rfl (bI_R _) (fun (zc7 : ¬ (bI (holdsS n tb law ((kv / n) / n) ((kv / n) % n) (kv % n))) = 0) => ?_) (fun (zc7 : ¬ ¬ (bI (holdsS n tb law ((kv / n) / n) ((kv / n) % n) (kv % n))) = 0) => ?_)
            · replace zc7 : (holdsS n tb law ((kv / n) / n) ((kv / n) % n) (kv % n)) = true := bI_n0.mp zc7
              refine m_run 2 (ps' := (7, [some (.inr (.inl 13)), some (.inr (.inl 14)), some (.inl law), some (.inl n), some (.inl (kv + 1)), some (.inl ((kv / n) / n)), some (.inl ((kv / n) % n)), some (.inl (kv % n)), some (.inl 1)], [], mW C (.inl (0, 1, .inl g) :: .inl (2, 9, .inr f) :: J), 0, 0)) rfl ?_
              refine m_weak [some (.inr (.inl 13)), some (.inr (.inl 14)), some (.inl law), some (.inl n), some (.inl (kv + 1)), none, none, none, none] ⟨rfl, ⟨rfl, ⟨rfl, ⟨rfl, ⟨rfl, trivial⟩⟩⟩⟩⟩ ?_
              refine ih (fun k2 g1 g2 => ?_)
              by_cases he : k2 = kv
              · subst he
                intro h9
                first
                | assumption
                | exact absurd (told_p.mp h9) (by omega)
              · exact hp k2 g1 (by omega)
            · replace zc7 : (holdsS n tb law ((kv / n) / n) ((kv / n) % n) (kv % n)) = false := bI_e0.mp (Decidable.not_not.mp zc7)
              refine m_run 9 (ps' := (105, [some (.inr (.inl 13)), some (.inr (.inl 14)), some (.inl law), some (.inl n), some (.inl kv), some (.inl ((kv / n) / n)), some (.inl ((kv / n) % n)), some (.inl (kv % n)), some (.inl 1)], [.inl (((100 * ((kv / n) / n)) + (10 * ((kv / n) % n))) + (kv % n))], mW C (.inl (0, 1, .inl g) :: .inl (2, 9, .inr f) :: J), 0, 0)) rfl ?_
              exact m_ret1 rfl (Or.inl rfl) rfl (m_Vi (by rw [scan_some hn hi1 hi2 (told_p.mpr (by omega)) (by assumption) hp]; rfl))
        · refine m_run 2 (ps' := (56, [some (.inr (.inl 13)), some (.inr (.inl 14)), some (.inl law), some (.inl n), some (.inl kv), some (.inl ((kv / n) / n)), some (.inl ((kv / n) % n)), some (.inl (kv % n)), none], [.inl 5, .inl law], mW C (.inl (0, 1, .inl g) :: .inl (2, 9, .inr f) :: J), 0, 0)) rfl ?_
          refine m_icmp rfl ⟨by omega, by omega⟩ ⟨by omega, by omega⟩ (fun (zc5 : law < 5) => ?_) (fun (zc5 : ¬ law < 5) => ?_)
          · refine m_run 4 (ps' := (73, [some (.inr (.inl 13)), some (.inr (.inl 14)), some (.inl law), some (.inl n), some (.inl kv), some (.inl ((kv / n) / n)), some (.inl ((kv / n) % n)), some (.inl (kv % n)), some (.inl 1)], [.inl 1], mW C (.inl (0, 1, .inl g) :: .inl (2, 9, .inr f) :: J), 0, 0)) rfl ?_
            refine m_if rfl ⟨by omega, by omega⟩ (fun (zc6 : 1 = 0) => absurd zc6 (by omega)) (fun (zc6 : ¬ 1 = 0) => ?_)
            refine m_run 6 (ps' := (85, [some (.inr (.inl 13)), some (.inr (.inl 14)), some (.inl law), some (.inl n), some (.inl kv), some (.inl ((kv / n) / n)), some (.inl ((kv / n) % n)), some (.inl (kv % n)), some (.inl 1)], [.inl (kv % n), .inl ((kv / n) % n), .inl ((kv / n) / n), .inl law, .inr (.inl 14), .inr (.inl 13)], mW C (.inl (0, 1, .inl g) :: .inl (2, 9, .inr f) :: J), 0, 0)) rfl ?_
            refine m_callSF [.inr (.inl 13), .inr (.inl 14), .inl law, .inl ((kv / n) / n), .inl ((kv / n) % n), .inl (kv % n)] [] rfl rfl rfl (a_hold (law := law) (a := ((kv / n) / n)) (b := ((kv / n) % n)) (c := (kv % n)) hg hL (by omega) (by omega) (by omega) (by omega) (by omega) (by omega) (by omega) (by omega)) ?_
            show m_Sem X 57 (88, [some (.inr (.inl 13)), some (.inr (.inl 14)), some (.inl law), some (.inl n), some (.inl kv), some (.inl ((kv / n) / n)), some (.inl ((kv / n) % n)), some (.inl (kv % n)), some (.inl 1)], [.inl (bI (holdsS n tb law ((kv / n) / n) ((kv / n) % n) (kv % n)))], mW C (.inl (0, 1, .inl g) :: .inl (2, 9, .inr f) :: J), 0, 0) _
            refine m_if rfl (bI_R _) (fun (zc7 : ¬ (bI (holdsS n tb law ((kv / n) / n) ((kv / n) % n) (kv % n))) = 0) => ?_) (fun (zc7 : ¬ ¬ (bI (holdsS n tb law ((kv / n) / n) ((kv / n) % n) (kv % n))) = 0) => ?_)
            · replace zc7 : (holdsS n tb law ((kv / n) / n) ((kv / n) % n) (kv % n)) = true := bI_n0.mp zc7
              refine m_run 2 (ps' := (7, [some (.inr (.inl 13)), some (.inr (.inl 14)), some (.inl law), some (.inl n), some (.inl (kv + 1)), some (.inl ((kv / n) / n)), some (.inl ((kv / n) % n)), some (.inl (kv % n)), some (.inl 1)], [], mW C (.inl (0, 1, .inl g) :: .inl (2, 9, .inr f) :: J), 0, 0)) rfl ?_
              refine m_weak [some (.inr (.inl 13)), some (.inr (.inl 14)), some (.inl law), some (.inl n), some (.inl (kv + 1)), none, none, none, none] ⟨rfl, ⟨rfl, ⟨rfl, ⟨rfl, ⟨rfl, trivial⟩⟩⟩⟩⟩ ?_
              refine ih (fun k2 g1 g2 => ?_)
              by_cases he : k2 = kv
              · subst he
                intro h9
                first
                | assumption
                | exact absurd (told_p.mp h9) (by omega)
              · exact hp k2 g1 (by omega)
            · replace zc7 : (holdsS n tb law ((kv / n) / n) ((kv / n) % n) (kv % n)) = false := bI_e0.mp (Decidable.not_not.mp zc7)
              refine m_run 9 (ps' := (105, [some (.inr (.inl 13)), some (.inr (.inl 14)), some (.inl law), some (.inl n), some (.inl kv), some (.inl ((kv / n) / n)), some (.inl ((kv / n) % n)), some (.inl (kv % n)), some (.inl 1)], [.inl (((100 * ((kv / n) / n)) + (10 * ((kv / n) % n))) + (kv % n))], mW C (.inl (0, 1, .inl g) :: .inl (2, 9, .inr f) :: J), 0, 0)) rfl ?_
              exact m_ret1 rfl (Or.inl rfl) rfl (m_Vi (by rw [scan_some hn hi1 hi2 (told_p.mpr (by omega)) (by assumption) hp]; rfl))
          · refine m_run 1 (ps' := (61, [some (.inr (.inl 13)), some (.inr (.inl 14)), some (.inl law), some (.inl n), some (.inl kv), some (.inl ((kv / n) / n)), some (.inl ((kv / n) % n)), some (.inl (kv % n)), none], [.inl (kv % n)], mW C (.inl (0, 1, .inl g) :: .inl (2, 9, .inr f) :: J), 0, 0)) rfl ?_
            refine m_if rfl ⟨by omega, by omega⟩ (fun (zc6 : ¬ (kv % n) = 0) => ?_) (fun (zc6 : ¬ ¬ (kv % n) = 0) => ?_)
            · refine m_run 3 (ps' := (73, [some (.inr (.inl 13)), some (.inr (.inl 14)), some (.inl law), some (.inl n), some (.inl kv), some (.inl ((kv / n) / n)), some (.inl ((kv / n) % n)), some (.inl (kv % n)), some (.inl 0)], [.inl 0], mW C (.inl (0, 1, .inl g) :: .inl (2, 9, .inr f) :: J), 0, 0)) rfl ?_
              refine m_if rfl ⟨by omega, by omega⟩ (fun (zc7 : 0 = 0) => ?_) (fun (zc7 : ¬ 0 = 0) => absurd zc7 (not_not_intro (by omega)))
              refine m_run 2 (ps' := (7, [some (.inr (.inl 13)), some (.inr (.inl 14)), some (.inl law), some (.inl n), some (.inl (kv + 1)), some (.inl ((kv / n) / n)), some (.inl ((kv / n) % n)), some (.inl (kv % n)), some (.inl 0)], [], mW C (.inl (0, 1, .inl g) :: .inl (2, 9, .inr f) :: J), 0, 0)) rfl ?_
              refine m_weak [some (.inr (.inl 13)), some (.inr (.inl 14)), some (.inl law), some (.inl n), some (.inl (kv + 1)), none, none, none, none] ⟨rfl, ⟨rfl, ⟨rfl, ⟨rfl, ⟨rfl, trivial⟩⟩⟩⟩⟩ ?_
              refine ih (fun k2 g1 g2 => ?_)
              by_cases he : k2 = kv
              · subst he
                intro h9
                first
                | assumption
                | exact absurd (told_p.mp h9) (by omega)
              · exact hp k2 g1 (by omega)
            · replace zc6 : (kv % n) = 0 := Decidable.not_not.mp zc6
              refine m_run 4 (ps' := (73, [some (.inr (.inl 13)), some (.inr (.inl 14)), some (.inl law), some (.inl n), some (.inl kv), some (.inl ((kv / n) / n)), some (.inl ((kv / n) % n)), some (.inl (kv % n)), some (.inl 1)], [.inl 1], mW C (.inl (0, 1, .inl g) :: .inl (2, 9, .inr f) :: J), 0, 0)) rfl ?_
              refine m_if rfl ⟨by omega, by omega⟩ (fun (zc7 : 1 = 0) => absurd zc7 (by omega)) (fun (zc7 : ¬ 1 = 0) => ?_)
              refine m_run 6 (ps' := (85, [some (.inr (.inl 13)), some (.inr (.inl 14)), some (.inl law), some (.inl n), some (.inl kv), some (.inl ((kv / n) / n)), some (.inl ((kv / n) % n)), some (.inl (kv % n)), some (.inl 1)], [.inl (kv % n), .inl ((kv / n) % n), .inl ((kv / n) / n), .inl law, .inr (.inl 14), .inr (.inl 13)], mW C (.inl (0, 1, .inl g) :: .inl (2, 9, .inr f) :: J), 0, 0)) rfl ?_
              refine m_callSF [.inr (.inl 13), .inr (.inl 14), .inl law, .inl ((kv / n) / n), .inl ((kv / n) % n), .inl (kv % n)] [] rfl rfl rfl (a_hold (law := law) (a := ((kv / n) / n)) (b := ((kv / n) % n)) (c := (kv % n)) hg hL (by omega) (by omega) (by omega) (by omega) (by omega) (by omega) (by omega) (by omega)) ?_
              show m_Sem X 57 (88, [some (.inr (.inl 13)), some (.inr (.inl 14)), some (.inl law), some (.inl n), some (.inl kv), some (.inl ((kv / n) / n)), some (.inl ((kv / n) % n)), some (.inl (kv % n)), some (.inl 1)], [.inl (bI (holdsS n tb law ((kv / n) / n) ((kv / n) % n) (kv % n)))], mW C (.inl (0, 1, .inl g) :: .inl (2, 9, .inr f) :: J), 0, 0) _
              refine m_if rfl (bI_R _) (fun (zc8 : ¬ (bI (holdsS n tb law ((kv / n) / n) ((kv / n) % n) (kv % n))) = 0) => ?_) (fun (zc8 : ¬ ¬ (bI (holdsS n tb law ((kv / n) / n) ((kv / n) % n) (kv % n))) = 0) => ?_)
              · replace zc8 : (holdsS n tb law ((kv / n) / n) ((kv / n) % n) (kv % n)) = true := bI_n0.mp zc8
                refine m_run 2 (ps' := (7, [some (.inr (.inl 13)), some (.inr (.inl 14)), some (.inl law), some (.inl n), some (.inl (kv + 1)), some (.inl ((kv / n) / n)), some (.inl ((kv / n) % n)), some (.inl (kv % n)), some (.inl 1)], [], mW C (.inl (0, 1, .inl g) :: .inl (2, 9, .inr f) :: J), 0, 0)) rfl ?_
                refine m_weak [some (.inr (.inl 13)), some (.inr (.inl 14)), some (.inl law), some (.inl n), some (.inl (kv + 1)), none, none, none, none] ⟨rfl, ⟨rfl, ⟨rfl, ⟨rfl, ⟨rfl, trivial⟩⟩⟩⟩⟩ ?_
                refine ih (fun k2 g1 g2 => ?_)
                by_cases he : k2 = kv
                · subst he
                  intro h9
                  first
                  | assumption
                  | exact absurd (told_p.mp h9) (by omega)
                · exact hp k2 g1 (by omega)
              · replace zc8 : (holdsS n tb law ((kv / n) / n) ((kv / n) % n) (kv % n)) = false := bI_e0.mp (Decidable.not_not.mp zc8)
                refine m_run 9 (ps' := (105, [some (.inr (.inl 13)), some (.inr (.inl 14)), some (.inl law), some (.inl n), some (.inl kv), some (.inl ((kv / n) / n)), some (.inl ((kv / n) % n)), some (.inl (kv % n)), some (.inl 1)], [.inl (((100 * ((kv / n) / n)) + (10 * ((kv / n) % n))) + (kv % n))], mW C (.inl (0, 1, .inl g) :: .inl (2, 9, .inr f) :: J), 0, 0)) rfl ?_
                exact m_ret1 rfl (Or.inl rfl) rfl (m_Vi (by rw [scan_some hn hi1 hi2 (told_p.mpr (by omega)) (by assumption) hp]; rfl))
set_option maxHeartbeats 4000000 in
set_option maxRecDepth 100000 in
theorem a_wit {X : Nat × Nat × (Nat → Int32)} {C : CS} {g : Int → Int} {f : Nat → Int64} {J : mPW} {n : Int} {tb : Int → Int → Int} {law : Int} (hg : g 0 = n) (hL : repL n f tb) (hw : 0 ≤ law) (hw2 : law < 8) : m_Run X 57 [.inr (.inl 13), .inr (.inl 14), .inl law] (mW C (.inl (0, 1, .inl g) :: .inl (2, 9, .inr f) :: J)) (m_V (wcdL (witS n tb law)) (mW C (.inl (0, 1, .inl g) :: .inl (2, 9, .inr f) :: J))) := by
  have hn := hL.1
  have hl := okN_lo hn
  have hq3 := cub_b hn
  show m_Sem X 57 (0, [some (.inr (.inl 13)), some (.inr (.inl 14)), some (.inl law), none, none, none, none, none, none], [], mW C (.inl (0, 1, .inl g) :: .inl (2, 9, .inr f) :: J), 0, 0) _
  refine m_run 2 (ps' := (2, [some (.inr (.inl 13)), some (.inr (.inl 14)), some (.inl law), none, none, none, none, none, none], [.inl 0, .inr (.inl 13)], mW C (.inl (0, 1, .inl g) :: .inl (2, 9, .inr f) :: J), 0, 0)) rfl ?_
  refine m_iald rfl rfl (by omega) (by omega) (by decide) ?_
  show m_Sem X 57 (3, [some (.inr (.inl 13)), some (.inr (.inl 14)), some (.inl law), none, none, none, none, none, none], [.inl (g 0)], mW C (.inl (0, 1, .inl g) :: .inl (2, 9, .inr f) :: J), 0, 0) _
  rw [hg]
  refine m_run 3 (ps' := (7, [some (.inr (.inl 13)), some (.inr (.inl 14)), some (.inl law), some (.inl n), some (.inl 0), none, none, none, none], [], mW C (.inl (0, 1, .inl g) :: .inl (2, 9, .inr f) :: J), 0, 0)) rfl ?_
  refine m_weak [some (.inr (.inl 13)), some (.inr (.inl 14)), some (.inl law), some (.inl n), some (.inl 0), none, none, none, none] ⟨rfl, ⟨rfl, ⟨rfl, ⟨rfl, ⟨rfl, trivial⟩⟩⟩⟩⟩ ?_
  exact a_witL hg hL hw hw2 0 (by omega) (by omega) (fun k2 g1 g2 => absurd g2 (by omega))
