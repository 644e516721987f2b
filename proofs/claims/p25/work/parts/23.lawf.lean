theorem uW_get {C : CS} {a b c : mPC} {J : mPW} : (mW C (a :: b :: (J ++ [c])))[J.length + 15]? = some c := by
  show (J ++ [c])[J.length]? = some c
  rw [List.getElem?_append_right (Nat.le_refl _), Nat.sub_self]
  rfl
theorem uW_set {C : CS} {a b c d : mPC} {J : mPW} : (mW C (a :: b :: (J ++ [c]))).set (J.length + 15) d = mW C (a :: b :: (J ++ [d])) := by
  have h : (J ++ [c]).set J.length d = J ++ [d] := by
    rw [List.set_append_right J.length d (Nat.le_refl _), Nat.sub_self]
    rfl
  show mW C (a :: b :: ((J ++ [c]).set J.length d)) = _
  rw [h]
theorem a_putU {X : Nat × Nat × (Nat → Int32)} {C : CS} {g : Int → Int} {f u : Nat → Int64} {J : mPW} {a b r : Int} (ha : 0 ≤ a) (ha2 : a < 9) : m_Run X 48 [.inr (.inl (J.length + 15)), .inl a, .inl b, .inl r] (mW C (.inl (0, 1, .inl g) :: .inl (2, 9, .inr f) :: (J ++ [.inl (2, 9, .inr u)]))) (m_U (mW C (.inl (0, 1, .inl g) :: .inl (2, 9, .inr f) :: (J ++ [.inl (2, 9, .inr (putF u a b r))])))) := by
  have h := a_putG (X := X) (w := mW C (.inl (0, 1, .inl g) :: .inl (2, 9, .inr f) :: (J ++ [.inl (2, 9, .inr u)]))) (q := J.length + 15) (f := u) (a := a) (b := b) (r := r) uW_get ha ha2
  rw [uW_set] at h
  exact h
set_option maxHeartbeats 4000000 in
set_option maxRecDepth 100000 in
theorem a_exB {X : Nat × Nat × (Nat → Int32)} {n : Int} {T : Int → Int} {hc : Int} {hs hp : Int → Int} {sg : Int → Int} {x : XS} {g : Int → Int} {f : Nat → Int64} {J : mPW} {tb : Int → Int → Int} {y z : Int} {a v : Int} {Q : Option mPV → mPW → Prop} (hL : repL n f tb) (ha : 0 ≤ a) (ha2 : a < n) (K : ∀ u : Nat → Int64, fillN n (fun a b => tb b a) u (a + 1) 0 → m_Sem X 61 (265, [some (.inr (.inl 0)), some (.inr (.inl 13)), some (.inr (.inl 14)), some (.inl z), some (.inl y), some (.inl (lowL z 16)), some (.inl n), some (.inl v), some (.inr (.inl (J.length + 15))), some (.inl (a + 1)), none, none, none], [], mW (n, T, (hc, hs, hp), (0, sg), x) (.inl (0, 1, .inl g) :: .inl (2, 9, .inr f) :: (J ++ [.inl (2, 9, .inr u)])), 0, 0) Q) : ∀ b : Int, 0 ≤ b → b ≤ n → ∀ (u : Nat → Int64) (m : Int) (hf : fillN n (fun a b => tb b a) u a b) (hu : m + sumF (fun b => if tb a b = tb b a then 0 else 1) (n - b).toNat b = v), m_Sem X 61 (275, [some (.inr (.inl 0)), some (.inr (.inl 13)), some (.inr (.inl 14)), some (.inl z), some (.inl y), some (.inl (lowL z 16)), some (.inl n), some (.inl m), some (.inr (.inl (J.length + 15))), some (.inl a), some (.inl b), none, none], [], mW (n, T, (hc, hs, hp), (0, sg), x) (.inl (0, 1, .inl g) :: .inl (2, 9, .inr f) :: (J ++ [.inl (2, 9, .inr u)])), 0, 0) (Q) := by
  have hn := hL.1
  have hl := okN_lo hn
  refine m_down 0 n ?_ ?_
  · intro u m hf hu
    rw [sum_end] at hu
    have hu : m = v := by omega
    subst hu
    show m_Sem X 61 (275, [some (.inr (.inl 0)), some (.inr (.inl 13)), some (.inr (.inl 14)), some (.inl z), some (.inl y), some (.inl (lowL z 16)), some (.inl n), some (.inl m), some (.inr (.inl (J.length + 15))), some (.inl a), some (.inl n), none, none], [], mW (n, T, (hc, hs, hp), (0, sg), x) (.inl (0, 1, .inl g) :: .inl (2, 9, .inr f) :: (J ++ [.inl (2, 9, .inr u)])), 0, 0) _
    refine m_run 2 (ps' := (279, [some (.inr (.inl 0)), some (.inr (.inl 13)), some (.inr (.inl 14)), some (.inl z), some (.inl y), some (.inl (lowL z 16)), some (.inl n), some (.inl m), some (.inr (.inl (J.length + 15))), some (.inl a), some (.inl n), none, none], [.inl n, .inl n], mW (n, T, (hc, hs, hp), (0, sg), x) (.inl (0, 1, .inl g) :: .inl (2, 9, .inr f) :: (J ++ [.inl (2, 9, .inr u)])), 0, 0)) rfl ?_
    refine m_icmp rfl ⟨by omega, by omega⟩ ⟨by omega, by omega⟩ (fun (zc1 : n ≤ n) => ?_) (fun (zc1 : ¬ n ≤ n) => absurd zc1 (not_not_intro (by omega)))
    refine m_run 2 (ps' := (265, [some (.inr (.inl 0)), some (.inr (.inl 13)), some (.inr (.inl 14)), some (.inl z), some (.inl y), some (.inl (lowL z 16)), some (.inl n), some (.inl m), some (.inr (.inl (J.length + 15))), some (.inl (a + 1)), some (.inl n), none, none], [], mW (n, T, (hc, hs, hp), (0, sg), x) (.inl (0, 1, .inl g) :: .inl (2, 9, .inr f) :: (J ++ [.inl (2, 9, .inr u)])), 0, 0)) rfl ?_
    refine m_weak [some (.inr (.inl 0)), some (.inr (.inl 13)), some (.inr (.inl 14)), some (.inl z), some (.inl y), some (.inl (lowL z 16)), some (.inl n), some (.inl m), some (.inr (.inl (J.length + 15))), some (.inl (a + 1)), none, none, none] ⟨rfl, ⟨rfl, ⟨rfl, ⟨rfl, ⟨rfl, ⟨rfl, ⟨rfl, ⟨rfl, ⟨rfl, ⟨rfl, trivial⟩⟩⟩⟩⟩⟩⟩⟩⟩⟩ ?_
    exact K u (fillN_r hf)
  · intro b hi1 hi2 ih u m hf hu
    rw [sum_step hi2] at hu
    refine m_run 2 (ps' := (279, [some (.inr (.inl 0)), some (.inr (.inl 13)), some (.inr (.inl 14)), some (.inl z), some (.inl y), some (.inl (lowL z 16)), some (.inl n), some (.inl m), some (.inr (.inl (J.length + 15))), some (.inl a), some (.inl b), none, none], [.inl n, .inl b], mW (n, T, (hc, hs, hp), (0, sg), x) (.inl (0, 1, .inl g) :: .inl (2, 9, .inr f) :: (J ++ [.inl (2, 9, .inr u)])), 0, 0)) rfl ?_
    refine m_icmp rfl ⟨by omega, by omega⟩ ⟨by omega, by omega⟩ (fun (zc1 : n ≤ b) => absurd zc1 (by omega)) (fun (zc1 : ¬ n ≤ b) => ?_)
    refine m_run 6 (ps' := (293, [some (.inr (.inl 0)), some (.inr (.inl 13)), some (.inr (.inl 14)), some (.inl z), some (.inl y), some (.inl (lowL z 16)), some (.inl n), some (.inl m), some (.inr (.inl (J.length + 15))), some (.inl a), some (.inl b), none, none], [.inl a, .inl b, .inr (.inl 14), .inl b, .inl a, .inr (.inl (J.length + 15))], mW (n, T, (hc, hs, hp), (0, sg), x) (.inl (0, 1, .inl g) :: .inl (2, 9, .inr f) :: (J ++ [.inl (2, 9, .inr u)])), 0, 0)) rfl ?_
    refine m_callSF [.inr (.inl 14), .inl b, .inl a] [.inl b, .inl a, .inr (.inl (J.length + 15))] rfl rfl rfl (a_of (a := b) (b := a) hL (by omega) (by omega) (by omega) (by omega)) ?_
    have zt1 := (hL.2 b a (by omega) (by omega) (by omega) (by omega)).2
    show m_Sem X 61 (296, [some (.inr (.inl 0)), some (.inr (.inl 13)), some (.inr (.inl 14)), some (.inl z), some (.inl y), some (.inl (lowL z 16)), some (.inl n), some (.inl m), some (.inr (.inl (J.length + 15))), some (.inl a), some (.inl b), none, none], [.inl (tb b a), .inl b, .inl a, .inr (.inl (J.length + 15))], mW (n, T, (hc, hs, hp), (0, sg), x) (.inl (0, 1, .inl g) :: .inl (2, 9, .inr f) :: (J ++ [.inl (2, 9, .inr u)])), 0, 0) _
    refine m_callSU [.inr (.inl (J.length + 15)), .inl a, .inl b, .inl (tb b a)] [] rfl rfl rfl (a_putU (a := a) (b := b) (r := (tb b a)) (by omega) (by omega)) ?_
    show m_Sem X 61 (299, [some (.inr (.inl 0)), some (.inr (.inl 13)), some (.inr (.inl 14)), some (.inl z), some (.inl y), some (.inl (lowL z 16)), some (.inl n), some (.inl m), some (.inr (.inl (J.length + 15))), some (.inl a), some (.inl b), none, none], [], mW (n, T, (hc, hs, hp), (0, sg), x) (.inl (0, 1, .inl g) :: .inl (2, 9, .inr f) :: (J ++ [.inl (2, 9, .inr (putF u a b (tb b a)))])), 0, 0) _
    refine m_run 4 (ps' := (306, [some (.inr (.inl 0)), some (.inr (.inl 13)), some (.inr (.inl 14)), some (.inl z), some (.inl y), some (.inl (lowL z 16)), some (.inl n), some (.inl m), some (.inr (.inl (J.length + 15))), some (.inl a), some (.inl b), none, none], [.inl b, .inl a, .inr (.inl 14), .inl m], mW (n, T, (hc, hs, hp), (0, sg), x) (.inl (0, 1, .inl g) :: .inl (2, 9, .inr f) :: (J ++ [.inl (2, 9, .inr (putF u a b (tb b a)))])), 0, 0)) rfl ?_
    refine m_callSF [.inr (.inl 14), .inl a, .inl b] [.inl m] rfl rfl rfl (a_of (a := a) (b := b) hL (by omega) (by omega) (by omega) (by omega)) ?_
    have zt2 := (hL.2 a b (by omega) (by omega) (by omega) (by omega)).2
    show m_Sem X 61 (309, [some (.inr (.inl 0)), some (.inr (.inl 13)), some (.inr (.inl 14)), some (.inl z), some (.inl y), some (.inl (lowL z 16)), some (.inl n), some (.inl m), some (.inr (.inl (J.length + 15))), some (.inl a), some (.inl b), none, none], [.inl (tb a b), .inl m], mW (n, T, (hc, hs, hp), (0, sg), x) (.inl (0, 1, .inl g) :: .inl (2, 9, .inr f) :: (J ++ [.inl (2, 9, .inr (putF u a b (tb b a)))])), 0, 0) _
    refine m_run 3 (ps' := (314, [some (.inr (.inl 0)), some (.inr (.inl 13)), some (.inr (.inl 14)), some (.inl z), some (.inl y), some (.inl (lowL z 16)), some (.inl n), some (.inl m), some (.inr (.inl (J.length + 15))), some (.inl a), some (.inl b), none, none], [.inl a, .inl b, .inr (.inl 14), .inl (tb a b), .inl m], mW (n, T, (hc, hs, hp), (0, sg), x) (.inl (0, 1, .inl g) :: .inl (2, 9, .inr f) :: (J ++ [.inl (2, 9, .inr (putF u a b (tb b a)))])), 0, 0)) rfl ?_
    refine m_callSF [.inr (.inl 14), .inl b, .inl a] [.inl (tb a b), .inl m] rfl rfl rfl (a_of (a := b) (b := a) hL (by omega) (by omega) (by omega) (by omega)) ?_
    have zt3 := (hL.2 b a (by omega) (by omega) (by omega) (by omega)).2
    show m_Sem X 61 (317, [some (.inr (.inl 0)), some (.inr (.inl 13)), some (.inr (.inl 14)), some (.inl z), some (.inl y), some (.inl (lowL z 16)), some (.inl n), some (.inl m), some (.inr (.inl (J.length + 15))), some (.inl a), some (.inl b), none, none], [.inl (tb b a), .inl (tb a b), .inl m], mW (n, T, (hc, hs, hp), (0, sg), x) (.inl (0, 1, .inl g) :: .inl (2, 9, .inr f) :: (J ++ [.inl (2, 9, .inr (putF u a b (tb b a)))])), 0, 0) _
    refine m_icmp rfl ⟨by omega, by omega⟩ ⟨by omega, by omega⟩ (fun (zc2 : (tb a b) = (tb b a)) => ?_) (fun (zc2 : ¬ (tb a b) = (tb b a)) => ?_)
    · refine m_run 5 (ps' := (275, [some (.inr (.inl 0)), some (.inr (.inl 13)), some (.inr (.inl 14)), some (.inl z), some (.inl y), some (.inl (lowL z 16)), some (.inl n), some (.inl (m + 0)), some (.inr (.inl (J.length + 15))), some (.inl a), some (.inl (b + 1)), none, none], [], mW (n, T, (hc, hs, hp), (0, sg), x) (.inl (0, 1, .inl g) :: .inl (2, 9, .inr f) :: (J ++ [.inl (2, 9, .inr (putF u a b (tb b a)))])), 0, 0)) rfl ?_
      refine m_weak [some (.inr (.inl 0)), some (.inr (.inl 13)), some (.inr (.inl 14)), some (.inl z), some (.inl y), some (.inl (lowL z 16)), some (.inl n), some (.inl (m + 0)), some (.inr (.inl (J.length + 15))), some (.inl a), some (.inl (b + 1)), none, none] ⟨rfl, ⟨rfl, ⟨rfl, ⟨rfl, ⟨rfl, ⟨rfl, ⟨rfl, ⟨rfl, ⟨rfl, ⟨rfl, ⟨rfl, trivial⟩⟩⟩⟩⟩⟩⟩⟩⟩⟩⟩ ?_
      refine ih _ _ (fillN_s hf ha hi1 hi2 (by omega) (by omega) (by omega) rfl) ?_
      rw [← hu]
      simp only [zc2, if_true, if_false]
      omega
    · refine m_run 6 (ps' := (275, [some (.inr (.inl 0)), some (.inr (.inl 13)), some (.inr (.inl 14)), some (.inl z), some (.inl y), some (.inl (lowL z 16)), some (.inl n), some (.inl (m + 1)), some (.inr (.inl (J.length + 15))), some (.inl a), some (.inl (b + 1)), none, none], [], mW (n, T, (hc, hs, hp), (0, sg), x) (.inl (0, 1, .inl g) :: .inl (2, 9, .inr f) :: (J ++ [.inl (2, 9, .inr (putF u a b (tb b a)))])), 0, 0)) rfl ?_
      refine m_weak [some (.inr (.inl 0)), some (.inr (.inl 13)), some (.inr (.inl 14)), some (.inl z), some (.inl y), some (.inl (lowL z 16)), some (.inl n), some (.inl (m + 1)), some (.inr (.inl (J.length + 15))), some (.inl a), some (.inl (b + 1)), none, none] ⟨rfl, ⟨rfl, ⟨rfl, ⟨rfl, ⟨rfl, ⟨rfl, ⟨rfl, ⟨rfl, ⟨rfl, ⟨rfl, ⟨rfl, trivial⟩⟩⟩⟩⟩⟩⟩⟩⟩⟩⟩ ?_
      refine ih _ _ (fillN_s hf ha hi1 hi2 (by omega) (by omega) (by omega) rfl) ?_
      rw [← hu]
      simp only [zc2, if_true, if_false]
      omega
set_option maxHeartbeats 4000000 in
set_option maxRecDepth 100000 in
theorem a_exA {X : Nat × Nat × (Nat → Int32)} {n : Int} {T : Int → Int} {hc : Int} {hs hp : Int → Int} {sg : Int → Int} {x : XS} {g : Int → Int} {f : Nat → Int64} {J : mPW} {tb : Int → Int → Int} {y z : Int} {v : Int} {Q : Option mPV → mPW → Prop} (hL : repL n f tb) (K : ∀ u : Nat → Int64, fillN n (fun a b => tb b a) u n 0 → m_Sem X 61 (343, [some (.inr (.inl 0)), some (.inr (.inl 13)), some (.inr (.inl 14)), some (.inl z), some (.inl y), some (.inl (lowL z 16)), some (.inl n), some (.inl v), some (.inr (.inl (J.length + 15))), some (.inl 0), none, none, none], [], mW (n, T, (hc, hs, hp), (0, sg), x) (.inl (0, 1, .inl g) :: .inl (2, 9, .inr f) :: (J ++ [.inl (2, 9, .inr u)])), 0, 0) Q) : ∀ a : Int, 0 ≤ a → a ≤ n → ∀ (u : Nat → Int64) (m : Int) (hf : fillN n (fun a b => tb b a) u a 0) (hu : m + sumF (fun a => sumF (fun b => if tb a b = tb b a then 0 else 1) n.toNat 0) (n - a).toNat a = v), m_Sem X 61 (265, [some (.inr (.inl 0)), some (.inr (.inl 13)), some (.inr (.inl 14)), some (.inl z), some (.inl y), some (.inl (lowL z 16)), some (.inl n), some (.inl m), some (.inr (.inl (J.length + 15))), some (.inl a), none, none, none], [], mW (n, T, (hc, hs, hp), (0, sg), x) (.inl (0, 1, .inl g) :: .inl (2, 9, .inr f) :: (J ++ [.inl (2, 9, .inr u)])), 0, 0) (Q) := by
  have hn := hL.1
  have hl := okN_lo hn
  refine m_down 0 n ?_ ?_
  · intro u m hf hu
    rw [sum_end] at hu
    have hu : m = v := by omega
    subst hu
    show m_Sem X 61 (265, [some (.inr (.inl 0)), some (.inr (.inl 13)), some (.inr (.inl 14)), some (.inl z), some (.inl y), some (.inl (lowL z 16)), some (.inl n), some (.inl m), some (.inr (.inl (J.length + 15))), some (.inl n), none, none, none], [], mW (n, T, (hc, hs, hp), (0, sg), x) (.inl (0, 1, .inl g) :: .inl (2, 9, .inr f) :: (J ++ [.inl (2, 9, .inr u)])), 0, 0) _
    refine m_run 2 (ps' := (269, [some (.inr (.inl 0)), some (.inr (.inl 13)), some (.inr (.inl 14)), some (.inl z), some (.inl y), some (.inl (lowL z 16)), some (.inl n), some (.inl m), some (.inr (.inl (J.length + 15))), some (.inl n), none, none, none], [.inl n, .inl n], mW (n, T, (hc, hs, hp), (0, sg), x) (.inl (0, 1, .inl g) :: .inl (2, 9, .inr f) :: (J ++ [.inl (2, 9, .inr u)])), 0, 0)) rfl ?_
    refine m_icmp rfl ⟨by omega, by omega⟩ ⟨by omega, by omega⟩ (fun (zc1 : n ≤ n) => ?_) (fun (zc1 : ¬ n ≤ n) => absurd zc1 (not_not_intro (by omega)))
    refine m_run 2 (ps' := (343, [some (.inr (.inl 0)), some (.inr (.inl 13)), some (.inr (.inl 14)), some (.inl z), some (.inl y), some (.inl (lowL z 16)), some (.inl n), some (.inl m), some (.inr (.inl (J.length + 15))), some (.inl 0), none, none, none], [], mW (n, T, (hc, hs, hp), (0, sg), x) (.inl (0, 1, .inl g) :: .inl (2, 9, .inr f) :: (J ++ [.inl (2, 9, .inr u)])), 0, 0)) rfl ?_
    refine m_weak [some (.inr (.inl 0)), some (.inr (.inl 13)), some (.inr (.inl 14)), some (.inl z), some (.inl y), some (.inl (lowL z 16)), some (.inl n), some (.inl m), some (.inr (.inl (J.length + 15))), some (.inl 0), none, none, none] ⟨rfl, ⟨rfl, ⟨rfl, ⟨rfl, ⟨rfl, ⟨rfl, ⟨rfl, ⟨rfl, ⟨rfl, ⟨rfl, trivial⟩⟩⟩⟩⟩⟩⟩⟩⟩⟩ ?_
    exact K u hf
  · intro a hi1 hi2 ih u m hf hu
    rw [sum_step hi2] at hu
    refine m_run 2 (ps' := (269, [some (.inr (.inl 0)), some (.inr (.inl 13)), some (.inr (.inl 14)), some (.inl z), some (.inl y), some (.inl (lowL z 16)), some (.inl n), some (.inl m), some (.inr (.inl (J.length + 15))), some (.inl a), none, none, none], [.inl n, .inl a], mW (n, T, (hc, hs, hp), (0, sg), x) (.inl (0, 1, .inl g) :: .inl (2, 9, .inr f) :: (J ++ [.inl (2, 9, .inr u)])), 0, 0)) rfl ?_
    refine m_icmp rfl ⟨by omega, by omega⟩ ⟨by omega, by omega⟩ (fun (zc1 : n ≤ a) => absurd zc1 (by omega)) (fun (zc1 : ¬ n ≤ a) => ?_)
    refine m_run 2 (ps' := (275, [some (.inr (.inl 0)), some (.inr (.inl 13)), some (.inr (.inl 14)), some (.inl z), some (.inl y), some (.inl (lowL z 16)), some (.inl n), some (.inl m), some (.inr (.inl (J.length + 15))), some (.inl a), some (.inl 0), none, none], [], mW (n, T, (hc, hs, hp), (0, sg), x) (.inl (0, 1, .inl g) :: .inl (2, 9, .inr f) :: (J ++ [.inl (2, 9, .inr u)])), 0, 0)) rfl ?_
    refine m_weak [some (.inr (.inl 0)), some (.inr (.inl 13)), some (.inr (.inl 14)), some (.inl z), some (.inl y), some (.inl (lowL z 16)), some (.inl n), some (.inl m), some (.inr (.inl (J.length + 15))), some (.inl a), some (.inl 0), none, none] ⟨rfl, ⟨rfl, ⟨rfl, ⟨rfl, ⟨rfl, ⟨rfl, ⟨rfl, ⟨rfl, ⟨rfl, ⟨rfl, ⟨rfl, trivial⟩⟩⟩⟩⟩⟩⟩⟩⟩⟩⟩ ?_
    exact a_exB (v := m + sumF (fun b => if tb a b = tb b a then 0 else 1) n.toNat 0) hL hi1 hi2 (fun u2 hf2 => ih u2 _ hf2 (by rw [← hu]; omega)) 0 (by omega) (by omega) u m hf (by rw [z_sub])
set_option maxHeartbeats 4000000 in
set_option maxRecDepth 100000 in
theorem a_exC {X : Nat × Nat × (Nat → Int32)} {n : Int} {T : Int → Int} {hc : Int} {hs hp : Int → Int} {sg : Int → Int} {x : XS} {g : Int → Int} {J : mPW} {y z : Int} {u : Nat → Int64} {m : Int} {Q : Option mPV → mPW → Prop} (hn : okN n) (K : ∀ f : Nat → Int64, (∀ a2, 0 ≤ a2 → a2 < n → f a2.toNat = u a2.toNat) → m_Sem X 61 (365, [some (.inr (.inl 0)), some (.inr (.inl 13)), some (.inr (.inl 14)), some (.inl z), some (.inl y), some (.inl (lowL z 16)), some (.inl n), some (.inl m), some (.inr (.inl (J.length + 15))), some (.inl n), none, none, none], [], mW (n, T, (hc, hs, hp), (0, sg), x) (.inl (0, 1, .inl g) :: .inl (2, 9, .inr f) :: (J ++ [.inl (2, 9, .inr u)])), 0, 0) Q) : ∀ a : Int, 0 ≤ a → a ≤ n → ∀ (f : Nat → Int64) (hf : ∀ a2, 0 ≤ a2 → a2 < a → f a2.toNat = u a2.toNat), m_Sem X 61 (343, [some (.inr (.inl 0)), some (.inr (.inl 13)), some (.inr (.inl 14)), some (.inl z), some (.inl y), some (.inl (lowL z 16)), some (.inl n), some (.inl m), some (.inr (.inl (J.length + 15))), some (.inl a), none, none, none], [], mW (n, T, (hc, hs, hp), (0, sg), x) (.inl (0, 1, .inl g) :: .inl (2, 9, .inr f) :: (J ++ [.inl (2, 9, .inr u)])), 0, 0) (Q) := by
  have hl := okN_lo hn
  refine m_down 0 n ?_ ?_
  · intro f hf
    show m_Sem X 61 (343, [some (.inr (.inl 0)), some (.inr (.inl 13)), some (.inr (.inl 14)), some (.inl z), some (.inl y), some (.inl (lowL z 16)), some (.inl n), some (.inl m), some (.inr (.inl (J.length + 15))), some (.inl n), none, none, none], [], mW (n, T, (hc, hs, hp), (0, sg), x) (.inl (0, 1, .inl g) :: .inl (2, 9, .inr f) :: (J ++ [.inl (2, 9, .inr u)])), 0, 0) _
    refine m_run 2 (ps' := (347, [some (.inr (.inl 0)), some (.inr (.inl 13)), some (.inr (.inl 14)), some (.inl z), some (.inl y), some (.inl (lowL z 16)), some (.inl n), some (.inl m), some (.inr (.inl (J.length + 15))), some (.inl n), none, none, none], [.inl n, .inl n], mW (n, T, (hc, hs, hp), (0, sg), x) (.inl (0, 1, .inl g) :: .inl (2, 9, .inr f) :: (J ++ [.inl (2, 9, .inr u)])), 0, 0)) rfl ?_
    refine m_icmp rfl ⟨by omega, by omega⟩ ⟨by omega, by omega⟩ (fun (zc1 : n ≤ n) => ?_) (fun (zc1 : ¬ n ≤ n) => absurd zc1 (not_not_intro (by omega)))
    refine m_weak [some (.inr (.inl 0)), some (.inr (.inl 13)), some (.inr (.inl 14)), some (.inl z), some (.inl y), some (.inl (lowL z 16)), some (.inl n), some (.inl m), some (.inr (.inl (J.length + 15))), some (.inl n), none, none, none] ⟨rfl, ⟨rfl, ⟨rfl, ⟨rfl, ⟨rfl, ⟨rfl, ⟨rfl, ⟨rfl, ⟨rfl, ⟨rfl, trivial⟩⟩⟩⟩⟩⟩⟩⟩⟩⟩ ?_
    exact K f hf
  · intro a hi1 hi2 ih f hf
    refine m_run 2 (ps' := (347, [some (.inr (.inl 0)), some (.inr (.inl 13)), some (.inr (.inl 14)), some (.inl z), some (.inl y), some (.inl (lowL z 16)), some (.inl n), some (.inl m), some (.inr (.inl (J.length + 15))), some (.inl a), none, none, none], [.inl n, .inl a], mW (n, T, (hc, hs, hp), (0, sg), x) (.inl (0, 1, .inl g) :: .inl (2, 9, .inr f) :: (J ++ [.inl (2, 9, .inr u)])), 0, 0)) rfl ?_
    refine m_icmp rfl ⟨by omega, by omega⟩ ⟨by omega, by omega⟩ (fun (zc1 : n ≤ a) => absurd zc1 (by omega)) (fun (zc1 : ¬ n ≤ a) => ?_)
    refine m_run 4 (ps' := (357, [some (.inr (.inl 0)), some (.inr (.inl 13)), some (.inr (.inl 14)), some (.inl z), some (.inl y), some (.inl (lowL z 16)), some (.inl n), some (.inl m), some (.inr (.inl (J.length + 15))), some (.inl a), none, none, none], [.inl a, .inr (.inl (J.length + 15)), .inl a, .inr (.inl 14)], mW (n, T, (hc, hs, hp), (0, sg), x) (.inl (0, 1, .inl g) :: .inl (2, 9, .inr f) :: (J ++ [.inl (2, 9, .inr u)])), 0, 0)) rfl ?_
    refine m_lald rfl uW_get (by omega) (by omega) (by decide) ?_
    refine m_last rfl rfl (by omega) (by omega) (by decide) ?_
    show m_Sem X 61 (359, [some (.inr (.inl 0)), some (.inr (.inl 13)), some (.inr (.inl 14)), some (.inl z), some (.inl y), some (.inl (lowL z 16)), some (.inl n), some (.inl m), some (.inr (.inl (J.length + 15))), some (.inl a), none, none, none], [], mW (n, T, (hc, hs, hp), (0, sg), x) (.inl (0, 1, .inl g) :: .inl (2, 9, .inr (vp_updL f (a).toNat (u (a).toNat))) :: (J ++ [.inl (2, 9, .inr u)])), 0, 0) _
    refine m_run 2 (ps' := (343, [some (.inr (.inl 0)), some (.inr (.inl 13)), some (.inr (.inl 14)), some (.inl z), some (.inl y), some (.inl (lowL z 16)), some (.inl n), some (.inl m), some (.inr (.inl (J.length + 15))), some (.inl (a + 1)), none, none, none], [], mW (n, T, (hc, hs, hp), (0, sg), x) (.inl (0, 1, .inl g) :: .inl (2, 9, .inr (vp_updL f (a).toNat (u (a).toNat))) :: (J ++ [.inl (2, 9, .inr u)])), 0, 0)) rfl ?_
    refine m_weak [some (.inr (.inl 0)), some (.inr (.inl 13)), some (.inr (.inl 14)), some (.inl z), some (.inl y), some (.inl (lowL z 16)), some (.inl n), some (.inl m), some (.inr (.inl (J.length + 15))), some (.inl (a + 1)), none, none, none] ⟨rfl, ⟨rfl, ⟨rfl, ⟨rfl, ⟨rfl, ⟨rfl, ⟨rfl, ⟨rfl, ⟨rfl, ⟨rfl, trivial⟩⟩⟩⟩⟩⟩⟩⟩⟩⟩ ?_
    refine ih _ (fun a2 g1 g2 => ?_)
    by_cases he : a2 = a
    · rw [he, updL_s]
    · rw [updL_n _ _ (by omega)]
      exact hf a2 g1 (by omega)
theorem exC_in {n : Int} (tb : Int → Int → Int) (hn : okN n) : 0 ≤ exC n tb ∧ exC n tb ≤ 1000 := by
  have hl := okN_lo hn
  have h := sum_bound (f := fun a => sumF (fun b => if tb a b = tb b a then 0 else 1) n.toNat 0) (B := 9) n.toNat 0 (fun j _ _ => by
    have h := sum_bound (f := fun b => if tb j b = tb b j then 0 else 1) (B := 1) n.toNat 0 (fun j _ _ => by (try dsimp only); split <;> decide)
    exact ⟨h.1, by omega⟩)
  rw [ex_eq] at h
  omega
set_option maxHeartbeats 4000000 in
set_option maxRecDepth 100000 in
theorem a_acX {X : Nat × Nat × (Nat → Int32)} {n : Int} {T : Int → Int} {hc : Int} {hs hp : Int → Int} {sg : Int → Int} {x : XS} {g : Int → Int} {f : Nat → Int64} {J : mPW} {tb : Int → Int → Int} {z : Int} (hg : g 0 = n) (hL : repL n f tb) (hR : repC n T tb) (hT : okT T) (h1 : 0 ≤ hc) (h2 : hc ≤ 4) (hw : 9 ≤ lowL z 16) (hw2 : lowL z 16 < 12) : m_Run X 61 [.inr (.inl 0), .inr (.inl 13), .inr (.inl 14), .inl z] (mW (n, T, (hc, hs, hp), (0, sg), x) (.inl (0, 1, .inl g) :: .inl (2, 9, .inr f) :: J)) (actQ (J.length + 1)) := by
  have hn := hL.1
  have hl := okN_lo hn
  have hex := exC_in tb hn
  show m_Sem X 61 (0, [some (.inr (.inl 0)), some (.inr (.inl 13)), some (.inr (.inl 14)), some (.inl z), none, none, none, none, none, none, none, none, none], [], mW (n, T, (hc, hs, hp), (0, sg), x) (.inl (0, 1, .inl g) :: .inl (2, 9, .inr f) :: J), 1, 9) _
  refine m_run 4 (ps' := (5, [some (.inr (.inl 0)), some (.inr (.inl 13)), some (.inr (.inl 14)), some (.inl z), none, none, none, none, none, none, none, none, none], [.inl 10000000, .inl ((Int32.ofInt z >>> (Int32.ofInt 4 &&& 31)).toInt)], mW (n, T, (hc, hs, hp), (0, sg), x) (.inl (0, 1, .inl g) :: .inl (2, 9, .inr f) :: J), 1, 9)) rfl ?_
  refine m_callSF [.inl ((Int32.ofInt z >>> (Int32.ofInt 4 &&& 31)).toInt), .inl 10000000] [] rfl rfl rfl (a_low (v := (Int32.ofInt z >>> (Int32.ofInt 4 &&& 31)).toInt) (m := 10000000) (by omega) (by omega)) ?_
  have zt1 := lowL_in (v := (Int32.ofInt z >>> (Int32.ofInt 4 &&& 31)).toInt) (m := 10000000) (by omega)
  generalize lowL ((Int32.ofInt z >>> (Int32.ofInt 4 &&& 31)).toInt) 10000000 = y at zt1 ⊢
  show m_Sem X 61 (8, [some (.inr (.inl 0)), some (.inr (.inl 13)), some (.inr (.inl 14)), some (.inl z), none, none, none, none, none, none, none, none, none], [.inl y], mW (n, T, (hc, hs, hp), (0, sg), x) (.inl (0, 1, .inl g) :: .inl (2, 9, .inr f) :: J), 1, 9) _
  refine m_run 3 (ps' := (13, [some (.inr (.inl 0)), some (.inr (.inl 13)), some (.inr (.inl 14)), some (.inl z), some (.inl y), none, none, none, none, none, none, none, none], [.inl 16, .inl z], mW (n, T, (hc, hs, hp), (0, sg), x) (.inl (0, 1, .inl g) :: .inl (2, 9, .inr f) :: J), 1, 9)) rfl ?_
  refine m_callSF [.inl z, .inl 16] [] rfl rfl rfl (a_low (v := z) (m := 16) (by omega) (by omega)) ?_
  have zt2 := lowL_in (v := z) (m := 16) (by omega)
  show m_Sem X 61 (16, [some (.inr (.inl 0)), some (.inr (.inl 13)), some (.inr (.inl 14)), some (.inl z), some (.inl y), none, none, none, none, none, none, none, none], [.inl (lowL z 16)], mW (n, T, (hc, hs, hp), (0, sg), x) (.inl (0, 1, .inl g) :: .inl (2, 9, .inr f) :: J), 1, 9) _
  refine m_run 3 (ps' := (20, [some (.inr (.inl 0)), some (.inr (.inl 13)), some (.inr (.inl 14)), some (.inl z), some (.inl y), some (.inl (lowL z 16)), none, none, none, none, none, none, none], [.inl 0, .inr (.inl 13)], mW (n, T, (hc, hs, hp), (0, sg), x) (.inl (0, 1, .inl g) :: .inl (2, 9, .inr f) :: J), 1, 9)) rfl ?_
  refine m_iald rfl rfl (by omega) (by omega) (by decide) ?_
  show m_Sem X 61 (21, [some (.inr (.inl 0)), some (.inr (.inl 13)), some (.inr (.inl 14)), some (.inl z), some (.inl y), some (.inl (lowL z 16)), none, none, none, none, none, none, none], [.inl (g 0)], mW (n, T, (hc, hs, hp), (0, sg), x) (.inl (0, 1, .inl g) :: .inl (2, 9, .inr f) :: J), 1, 9) _
  rw [hg]
  refine m_run 3 (ps' := (27, [some (.inr (.inl 0)), some (.inr (.inl 13)), some (.inr (.inl 14)), some (.inl z), some (.inl y), some (.inl (lowL z 16)), some (.inl n), none, none, none, none, none, none], [.inl 6, .inl (lowL z 16)], mW (n, T, (hc, hs, hp), (0, sg), x) (.inl (0, 1, .inl g) :: .inl (2, 9, .inr f) :: J), 1, 9)) rfl ?_
  refine m_icmp rfl ⟨by omega, by omega⟩ ⟨by omega, by omega⟩ (fun (zc1 : 6 ≤ (lowL z 16)) => ?_) (fun (zc1 : ¬ 6 ≤ (lowL z 16)) => absurd zc1 (not_not_intro (by omega)))
  refine m_run 2 (ps' := (62, [some (.inr (.inl 0)), some (.inr (.inl 13)), some (.inr (.inl 14)), some (.inl z), some (.inl y), some (.inl (lowL z 16)), some (.inl n), none, none, none, none, none, none], [.inl 9, .inl (lowL z 16)], mW (n, T, (hc, hs, hp), (0, sg), x) (.inl (0, 1, .inl g) :: .inl (2, 9, .inr f) :: J), 1, 9)) rfl ?_
  refine m_icmp rfl ⟨by omega, by omega⟩ ⟨by omega, by omega⟩ (fun (zc2 : 9 ≤ (lowL z 16)) => ?_) (fun (zc2 : ¬ 9 ≤ (lowL z 16)) => absurd zc2 (not_not_intro (by omega)))
  refine m_run 2 (ps' := (250, [some (.inr (.inl 0)), some (.inr (.inl 13)), some (.inr (.inl 14)), some (.inl z), some (.inl y), some (.inl (lowL z 16)), some (.inl n), none, none, none, none, none, none], [.inl 12, .inl (lowL z 16)], mW (n, T, (hc, hs, hp), (0, sg), x) (.inl (0, 1, .inl g) :: .inl (2, 9, .inr f) :: J), 1, 9)) rfl ?_
  refine m_icmp rfl ⟨by omega, by omega⟩ ⟨by omega, by omega⟩ (fun (zc3 : 12 ≤ (lowL z 16)) => absurd zc3 (by omega)) (fun (zc3 : ¬ 12 ≤ (lowL z 16)) => ?_)
  refine m_run 2 (ps' := (256, [some (.inr (.inl 0)), some (.inr (.inl 13)), some (.inr (.inl 14)), some (.inl z), some (.inl y), some (.inl (lowL z 16)), some (.inl n), some (.inl 0), none, none, none, none, none], [], mW (n, T, (hc, hs, hp), (0, sg), x) (.inl (0, 1, .inl g) :: .inl (2, 9, .inr f) :: J), 1, 9)) rfl ?_
  refine m_run 2 (ps' := (260, [some (.inr (.inl 0)), some (.inr (.inl 13)), some (.inr (.inl 14)), some (.inl z), some (.inl y), some (.inl (lowL z 16)), some (.inl n), some (.inl 0), none, none, none, none, none], [.inr (.inl (J.length + 15))], mW (n, T, (hc, hs, hp), (0, sg), x) (.inl (0, 1, .inl g) :: .inl (2, 9, .inr f) :: (J ++ [.inl (2, 9, .inr (fun _ => 0))])), 0, 0)) rfl ?_
  refine m_run 3 (ps' := (265, [some (.inr (.inl 0)), some (.inr (.inl 13)), some (.inr (.inl 14)), some (.inl z), some (.inl y), some (.inl (lowL z 16)), some (.inl n), some (.inl 0), some (.inr (.inl (J.length + 15))), some (.inl 0), none, none, none], [], mW (n, T, (hc, hs, hp), (0, sg), x) (.inl (0, 1, .inl g) :: .inl (2, 9, .inr f) :: (J ++ [.inl (2, 9, .inr (fun _ => 0))])), 0, 0)) rfl ?_
  refine m_weak [some (.inr (.inl 0)), some (.inr (.inl 13)), some (.inr (.inl 14)), some (.inl z), some (.inl y), some (.inl (lowL z 16)), some (.inl n), some (.inl 0), some (.inr (.inl (J.length + 15))), some (.inl 0), none, none, none] ⟨rfl, ⟨rfl, ⟨rfl, ⟨rfl, ⟨rfl, ⟨rfl, ⟨rfl, ⟨rfl, ⟨rfl, ⟨rfl, trivial⟩⟩⟩⟩⟩⟩⟩⟩⟩⟩ ?_
  refine a_exA (v := exC n tb) hL (fun u2 hu2 => ?_) 0 (by omega) (by omega) (fun _ => 0) 0 fillN_0 (by rw [z_sub, Int.zero_add]; exact ex_eq tb)
  refine a_exC hn (fun f2 hf2 => ?_) 0 (by omega) (by omega) f (fun a2 g1 g2 => absurd g2 (by omega))
  show m_Sem X 61 (365, [some (.inr (.inl 0)), some (.inr (.inl 13)), some (.inr (.inl 14)), some (.inl z), some (.inl y), some (.inl (lowL z 16)), some (.inl n), some (.inl (exC n tb)), some (.inr (.inl (J.length + 15))), some (.inl n), none, none, none], [], mW (n, T, (hc, hs, hp), (0, sg), x) (.inl (0, 1, .inl g) :: .inl (2, 9, .inr f2) :: (J ++ [.inl (2, 9, .inr u2)])), 0, 0) _
  refine m_run 1 (ps' := (366, [some (.inr (.inl 0)), some (.inr (.inl 13)), some (.inr (.inl 14)), some (.inl z), some (.inl y), some (.inl (lowL z 16)), some (.inl n), some (.inl (exC n tb)), some (.inr (.inl (J.length + 15))), some (.inl n), none, none, none], [.inr (.inl 0)], mW (n, T, (hc, hs, hp), (0, sg), x) (.inl (0, 1, .inl g) :: .inl (2, 9, .inr f2) :: (J ++ [.inl (2, 9, .inr u2)])), 0, 0)) rfl ?_
  refine m_callV [] [] rfl rfl ⟨_, rfl, rfl⟩ rfl rfl (k_exch hR hT h1 h2) (fun r_ w_ hq_ _ => ?_)
  obtain ⟨rfl, T2, rfl, hT2, hF3⟩ := hq_
  show m_Sem X 61 (369, [some (.inr (.inl 0)), some (.inr (.inl 13)), some (.inr (.inl 14)), some (.inl z), some (.inl y), some (.inl (lowL z 16)), some (.inl n), some (.inl (exC n tb)), some (.inr (.inl (J.length + 15))), some (.inl n), none, none, none], [.inl (exC n tb)], mW (n, T2, (keepH n T (hc, hs, hp)), (0, sg), x) (.inl (0, 1, .inl g) :: .inl (2, 9, .inr f2) :: (J ++ [.inl (2, 9, .inr u2)])), 0, 0) _
  refine m_run 1 (ps' := (371, [some (.inr (.inl 0)), some (.inr (.inl 13)), some (.inr (.inl 14)), some (.inl z), some (.inl y), some (.inl (lowL z 16)), some (.inl n), some (.inl (exC n tb)), some (.inr (.inl (J.length + 15))), some (.inl n), none, none, none], [.inl (exC n tb), .inl (exC n tb)], mW (n, T2, (keepH n T (hc, hs, hp)), (0, sg), x) (.inl (0, 1, .inl g) :: .inl (2, 9, .inr f2) :: (J ++ [.inl (2, 9, .inr u2)])), 0, 0)) rfl ?_
  refine m_icmp rfl ⟨by omega, by omega⟩ ⟨by omega, by omega⟩ (fun (zc4 : ¬ (exC n tb) = (exC n tb)) => absurd zc4 (by omega)) (fun (zc4 : ¬ ¬ (exC n tb) = (exC n tb)) => ?_)
  replace zc4 : (exC n tb) = (exC n tb) := Decidable.not_not.mp zc4
  refine m_run 2 (ps' := (379, [some (.inr (.inl 0)), some (.inr (.inl 13)), some (.inr (.inl 14)), some (.inl z), some (.inl y), some (.inl (lowL z 16)), some (.inl n), some (.inl (exC n tb)), some (.inr (.inl (J.length + 15))), some (.inl n), none, none, none], [.inl 1], mW (n, T2, (keepH n T (hc, hs, hp)), (0, sg), x) (.inl (0, 1, .inl g) :: .inl (2, 9, .inr f2) :: (J ++ [.inl (2, 9, .inr u2)])), 0, 0)) rfl ?_
  exact m_ret1 rfl (Or.inr ⟨rfl, Or.inr rfl⟩) rfl (⟨rfl, n, T2, _, sg, x, g, f2, _, (fun a b => tb b a), rfl, hg, tbl_L hn (fun a b g1 g2 g3 g4 => by rw [hf2 a g1 g2]; exact fillN_e hu2 a b g1 g2 g3 g4) (fun a b g1 g2 g3 g4 => (hL.2 b a g3 g4 g1 g2).2), tbl_C hn hF3 (fun a b g1 g2 g3 g4 => (hL.2 b a g3 g4 g1 g2).2), hT2, keepH_in h1 h2, List.length_append⟩)
