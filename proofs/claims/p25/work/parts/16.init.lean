/-! The objects are made: first the ring, in a world of four cells. -/
def mS (n : Int) (T : Int → Int) : mPW := [.inr (5, [.inr (.inr .null), .inr (.inr .null), .inr (.inr .null), .inr (.inr .null), .inr (.inr .null)]), .inr (2, [.inr (.inr .null)]), .inr (3, [.inl n, .inr (.inl 3)]), .inl (0, 81, .inl T)]
def mC (c : CS) : mPW := mW c []
set_option maxHeartbeats 4000000 in
set_option maxRecDepth 100000 in
theorem s_fp {X : Nat × Nat × (Nat → Int32)} {n : Int} {T : Int → Int} {a b : Int} (hn : okN n) (ha : 0 ≤ a) (ha2 : a < n) (hb : 0 ≤ b) (hb2 : b < n) : m_Run X 27 [.inl n, .inl a, .inl b] (mS n T) (m_V (fpS n a b) (mS n T)) := by
  have hl := okN_lo hn
  have p0 := mul_b (x := a) (y := b) (B := 8) (C := 8) ha (by omega) hb (by omega)
  have p1 := mul_b (x := a / 3) (y := b % 3) (B := 2) (C := 2) (by omega) (by omega) (by omega) (by omega)
  have p2 := mul_b (x := a % 3) (y := b / 3) (B := 2) (C := 2) (by omega) (by omega) (by omega) (by omega)
  have p3 := mul_b (x := a % 3) (y := b % 3) (B := 2) (C := 2) (by omega) (by omega) (by omega) (by omega)
  have p4 := mul_b (x := a / 3) (y := b / 3) (B := 2) (C := 2) (by omega) (by omega) (by omega) (by omega)
  show m_Sem X 27 (0, [some (.inl n), some (.inl a), some (.inl b), none, none, none, none], [], mS n T, 0, 0) _
  refine m_run 2 (ps' := (2, [some (.inl n), some (.inl a), some (.inl b), none, none, none, none], [.inl 4, .inl n], mS n T, 0, 0)) rfl ?_
  refine m_icmp rfl ⟨by omega, by omega⟩ ⟨by omega, by omega⟩ (fun (zc1 : ¬ n = 4) => ?_) (fun (zc1 : ¬ ¬ n = 4) => ?_)
  · refine m_run 2 (ps' := (30, [some (.inl n), some (.inl a), some (.inl b), none, none, none, none], [.inl 9, .inl n], mS n T, 0, 0)) rfl ?_
    refine m_icmp rfl ⟨by omega, by omega⟩ ⟨by omega, by omega⟩ (fun (zc2 : ¬ n = 9) => ?_) (fun (zc2 : ¬ ¬ n = 9) => ?_)
    · refine m_run 1 (ps' := (84, [some (.inl n), some (.inl a), some (.inl b), none, none, none, none], [.inl n], mS n T, 0, 0)) rfl ?_
      refine m_if rfl ⟨by omega, by omega⟩ (fun (zc3 : n ≤ 0) => ?_) (fun (zc3 : ¬ n ≤ 0) => ?_)
      · refine m_run 1 (ps' := (96, [some (.inl n), some (.inl a), some (.inl b), none, none, none, none], [.inl 0], mS n T, 0, 0)) rfl ?_
        exact m_ret1 rfl (Or.inl rfl) rfl (m_Vi (by unfold fpS; (repeat' split) <;> first | rfl | omega))
      · refine m_run 4 (ps' := (91, [some (.inl n), some (.inl a), some (.inl b), none, none, none, none], [.inl n, .inl (a * b)], mS n T, 0, 0)) rfl ?_
        refine m_rem rfl (by omega) (by omega) (by omega) (by omega) ?_
        refine m_run 1 (ps' := (96, [some (.inl n), some (.inl a), some (.inl b), none, none, none, none], [.inl ((a * b) % n)], mS n T, 0, 0)) rfl ?_
        exact m_ret1 rfl (Or.inl rfl) rfl (m_Vi (by unfold fpS; (repeat' split) <;> first | rfl | omega))
    · replace zc2 : n = 9 := Decidable.not_not.mp zc2
      refine m_run 2 (ps' := (35, [some (.inl n), some (.inl a), some (.inl b), none, none, none, none], [.inl 3, .inl a], mS n T, 0, 0)) rfl ?_
      refine m_div rfl (by omega) (by omega) (by omega) (by omega) ?_
      refine m_run 3 (ps' := (39, [some (.inl n), some (.inl a), some (.inl b), some (.inl (a / 3)), none, none, none], [.inl 3, .inl a], mS n T, 0, 0)) rfl ?_
      refine m_rem rfl (by omega) (by omega) (by omega) (by omega) ?_
      refine m_run 3 (ps' := (44, [some (.inl n), some (.inl a), some (.inl b), some (.inl (a / 3)), some (.inl (a % 3)), none, none], [.inl 3, .inl b], mS n T, 0, 0)) rfl ?_
      refine m_div rfl (by omega) (by omega) (by omega) (by omega) ?_
      refine m_run 3 (ps' := (49, [some (.inl n), some (.inl a), some (.inl b), some (.inl (a / 3)), some (.inl (a % 3)), some (.inl (b / 3)), none], [.inl 3, .inl b], mS n T, 0, 0)) rfl ?_
      refine m_rem rfl (by omega) (by omega) (by omega) (by omega) ?_
      refine m_run 10 (ps' := (64, [some (.inl n), some (.inl a), some (.inl b), some (.inl (a / 3)), some (.inl (a % 3)), some (.inl (b / 3)), some (.inl (b % 3))], [.inl 3, .inl (((a / 3) * (b % 3)) + ((a % 3) * (b / 3))), .inl 3], mS n T, 0, 0)) rfl ?_
      refine m_rem rfl (by omega) (by omega) (by omega) (by omega) ?_
      refine m_run 11 (ps' := (80, [some (.inl n), some (.inl a), some (.inl b), some (.inl (a / 3)), some (.inl (a % 3)), some (.inl (b / 3)), some (.inl (b % 3))], [.inl 3, .inl ((((a % 3) * (b % 3)) - ((a / 3) * (b / 3))) + 6), .inl (3 * ((((a / 3) * (b % 3)) + ((a % 3) * (b / 3))) % 3))], mS n T, 0, 0)) rfl ?_
      refine m_rem rfl (by omega) (by omega) (by omega) (by omega) ?_
      refine m_run 1 (ps' := (82, [some (.inl n), some (.inl a), some (.inl b), some (.inl (a / 3)), some (.inl (a % 3)), some (.inl (b / 3)), some (.inl (b % 3))], [.inl ((3 * ((((a / 3) * (b % 3)) + ((a % 3) * (b / 3))) % 3)) + (((((a % 3) * (b % 3)) - ((a / 3) * (b / 3))) + 6) % 3))], mS n T, 0, 0)) rfl ?_
      exact m_ret1 rfl (Or.inl rfl) rfl (m_Vi (by unfold fpS; (repeat' split) <;> first | rfl | omega))
  · replace zc1 : n = 4 := Decidable.not_not.mp zc1
    refine m_run 1 (ps' := (6, [some (.inl n), some (.inl a), some (.inl b), none, none, none, none], [.inl a], mS n T, 0, 0)) rfl ?_
    refine m_if rfl ⟨by omega, by omega⟩ (fun (zc2 : a = 0) => ?_) (fun (zc2 : ¬ a = 0) => ?_)
    · refine m_run 2 (ps' := (26, [some (.inl n), some (.inl a), some (.inl b), none, none, none, none], [.inl 0], mS n T, 0, 0)) rfl ?_
      exact m_ret1 rfl (Or.inl rfl) rfl (m_Vi (by unfold fpS; (repeat' split) <;> first | rfl | omega))
    · refine m_run 1 (ps' := (10, [some (.inl n), some (.inl a), some (.inl b), none, none, none, none], [.inl b], mS n T, 0, 0)) rfl ?_
      refine m_if rfl ⟨by omega, by omega⟩ (fun (zc3 : ¬ b = 0) => ?_) (fun (zc3 : ¬ ¬ b = 0) => ?_)
      · refine m_run 7 (ps' := (24, [some (.inl n), some (.inl a), some (.inl b), none, none, none, none], [.inl 3, .inl ((a + b) - 2), .inl 1], mS n T, 0, 0)) rfl ?_
        refine m_rem rfl (by omega) (by omega) (by omega) (by omega) ?_
        refine m_run 1 (ps' := (26, [some (.inl n), some (.inl a), some (.inl b), none, none, none, none], [.inl (1 + (((a + b) - 2) % 3))], mS n T, 0, 0)) rfl ?_
        exact m_ret1 rfl (Or.inl rfl) rfl (m_Vi (by unfold fpS; (repeat' split) <;> first | rfl | omega))
      · replace zc3 : b = 0 := Decidable.not_not.mp zc3
        refine m_run 2 (ps' := (26, [some (.inl n), some (.inl a), some (.inl b), none, none, none, none], [.inl 0], mS n T, 0, 0)) rfl ?_
        exact m_ret1 rfl (Or.inl rfl) rfl (m_Vi (by unfold fpS; (repeat' split) <;> first | rfl | omega))
set_option maxHeartbeats 4000000 in
set_option maxRecDepth 100000 in
theorem s_set {X : Nat × Nat × (Nat → Int32)} {n : Int} {T : Int → Int} {a b r : Int} (hr : m_R r) (hT : m_R (T (9 * a + b))) (h1 : 0 ≤ 9 * a + b) (h2 : 9 * a + b < 81) (h3 : m_R a) (h4 : m_R b) : m_Run X 20 [.inr (.inl 2), .inl a, .inl b, .inl r] (mS n T) (m_V (if T (9 * a + b) = r then 0 else 1) (mS n (m_up T (9 * a + b) r))) := by
  show m_Sem X 20 (0, [some (.inr (.inl 2)), some (.inl a), some (.inl b), some (.inl r), none], [], mS n T, 0, 0) _
  refine m_run 7 (ps' := (10, [some (.inr (.inl 2)), some (.inl a), some (.inl b), some (.inl r), some (.inl ((9 * a) + b))], [.inl ((9 * a) + b)], mS n T, 0, 0)) rfl ?_
  refine m_if rfl ⟨by omega, by omega⟩ (fun (zc1 : ((9 * a) + b) < 0) => absurd zc1 (by omega)) (fun (zc1 : ¬ ((9 * a) + b) < 0) => ?_)
  refine m_run 4 (ps' := (20, [some (.inr (.inl 2)), some (.inl a), some (.inl b), some (.inl r), some (.inl ((9 * a) + b))], [.inl 81, .inl ((9 * a) + b)], mS n T, 0, 0)) rfl ?_
  refine m_icmp rfl ⟨by omega, by omega⟩ ⟨by omega, by omega⟩ (fun (zc2 : 81 ≤ ((9 * a) + b)) => absurd zc2 (by omega)) (fun (zc2 : ¬ 81 ≤ ((9 * a) + b)) => ?_)
  refine m_run 3 (ps' := (29, [some (.inr (.inl 2)), some (.inl a), some (.inl b), some (.inl r), some (.inl ((9 * a) + b))], [.inl ((9 * a) + b), .inr (.inl 3)], mS n T, 0, 0)) rfl ?_
  refine m_iald rfl rfl (by omega) (by omega) (by decide) ?_
  refine m_run 1 (ps' := (31, [some (.inr (.inl 2)), some (.inl a), some (.inl b), some (.inl r), some (.inl ((9 * a) + b))], [.inl r, .inl (T ((9 * a) + b))], mS n T, 0, 0)) rfl ?_
  refine m_icmp rfl hT hr (fun (zc3 : ¬ (T ((9 * a) + b)) = r) => ?_) (fun (zc3 : ¬ ¬ (T ((9 * a) + b)) = r) => ?_)
  · refine m_run 4 (ps' := (43, [some (.inr (.inl 2)), some (.inl a), some (.inl b), some (.inl r), some (.inl ((9 * a) + b))], [.inl r, .inl ((9 * a) + b), .inr (.inl 3)], mS n T, 0, 0)) rfl ?_
    refine m_iast rfl rfl (by omega) (by omega) (by decide) ?_
    show m_Sem X 20 (44, [some (.inr (.inl 2)), some (.inl a), some (.inl b), some (.inl r), some (.inl ((9 * a) + b))], [], mS n (m_up T ((9 * a) + b) r), 0, 0) _
    refine m_run 1 (ps' := (45, [some (.inr (.inl 2)), some (.inl a), some (.inl b), some (.inl r), some (.inl ((9 * a) + b))], [.inl 1], mS n (m_up T ((9 * a) + b) r), 0, 0)) rfl ?_
    exact m_ret1 rfl (Or.inl rfl) rfl (m_Vi (by rw [if_neg zc3]))
  · replace zc3 : (T ((9 * a) + b)) = r := Decidable.not_not.mp zc3
    refine m_run 1 (ps' := (35, [some (.inr (.inl 2)), some (.inl a), some (.inl b), some (.inl r), some (.inl ((9 * a) + b))], [.inl 0], mS n T, 0, 0)) rfl ?_
    exact m_ret1 rfl (Or.inl rfl) rfl (m_Vw (by rw [if_pos zc3]) (by rw [← m_up_id T zc3]))
set_option maxHeartbeats 4000000 in
set_option maxRecDepth 100000 in
theorem s_bfI {X : Nat × Nat × (Nat → Int32)} {n : Int} {a : Int} {Q : Option mPV → mPW → Prop} (hn : okN n) (ha : 0 ≤ a) (ha2 : a < n) (K : ∀ T : Int → Int, okT T → fill n (fpS n) T (a + 1) 0 → m_Sem X 21 (7, [some (.inr (.inl 2)), some (.inl n), some (.inl (a + 1)), none], [], mS n T, 0, 0) Q) : ∀ b : Int, 0 ≤ b → b ≤ n → ∀ (T : Int → Int) (hT : okT T) (hf : fill n (fpS n) T a b), m_Sem X 21 (14, [some (.inr (.inl 2)), some (.inl n), some (.inl a), some (.inl b)], [], mS n T, 0, 0) (Q) := by
  have hl := okN_lo hn
  refine m_down 0 n ?_ ?_
  · intro T hT hf
    show m_Sem X 21 (14, [some (.inr (.inl 2)), some (.inl n), some (.inl a), some (.inl n)], [], mS n T, 0, 0) _
    refine m_run 2 (ps' := (16, [some (.inr (.inl 2)), some (.inl n), some (.inl a), some (.inl n)], [.inl n, .inl n], mS n T, 0, 0)) rfl ?_
    refine m_icmp rfl ⟨by omega, by omega⟩ ⟨by omega, by omega⟩ (fun (zc1 : n ≤ n) => ?_) (fun (zc1 : ¬ n ≤ n) => absurd zc1 (not_not_intro (by omega)))
    refine m_run 2 (ps' := (7, [some (.inr (.inl 2)), some (.inl n), some (.inl (a + 1)), some (.inl n)], [], mS n T, 0, 0)) rfl ?_
    refine m_weak [some (.inr (.inl 2)), some (.inl n), some (.inl (a + 1)), none] ⟨rfl, ⟨rfl, ⟨rfl, trivial⟩⟩⟩ ?_
    exact K T hT (fill_r hf)
  · intro b hi1 hi2 ih T hT hf
    have hp := hT (9 * a + b) (by omega) (by omega)
    refine m_run 2 (ps' := (16, [some (.inr (.inl 2)), some (.inl n), some (.inl a), some (.inl b)], [.inl n, .inl b], mS n T, 0, 0)) rfl ?_
    refine m_icmp rfl ⟨by omega, by omega⟩ ⟨by omega, by omega⟩ (fun (zc1 : n ≤ b) => absurd zc1 (by omega)) (fun (zc1 : ¬ n ≤ b) => ?_)
    refine m_run 6 (ps' := (25, [some (.inr (.inl 2)), some (.inl n), some (.inl a), some (.inl b)], [.inl b, .inl a, .inl n, .inl b, .inl a, .inr (.inl 2)], mS n T, 0, 0)) rfl ?_
    refine m_callSF [.inl n, .inl a, .inl b] [.inl b, .inl a, .inr (.inl 2)] rfl rfl rfl (s_fp (a := a) (b := b) hn (by omega) (by omega) (by omega) (by omega)) ?_
    have zt1 := fpS_in (n := n) (a := a) (b := b) hn (by omega) (by omega) (by omega) (by omega)
    show m_Sem X 21 (28, [some (.inr (.inl 2)), some (.inl n), some (.inl a), some (.inl b)], [.inl (fpS n a b), .inl b, .inl a, .inr (.inl 2)], mS n T, 0, 0) _
    refine m_callVF [.inl a, .inl b, .inl (fpS n a b)] [] rfl rfl ⟨_, rfl, rfl⟩ rfl rfl (s_set (T := T) (a := a) (b := b) (r := (fpS n a b)) ⟨by omega, by omega⟩ ⟨by omega, by omega⟩ (by omega) (by omega) ⟨by omega, by omega⟩ ⟨by omega, by omega⟩) ?_
    show m_Sem X 21 (31, [some (.inr (.inl 2)), some (.inl n), some (.inl a), some (.inl b)], [.inl (if T (9 * a + b) = (fpS n a b) then 0 else 1)], mS n (m_up T (9 * a + b) (fpS n a b)), 0, 0) _
    refine m_run 3 (ps' := (14, [some (.inr (.inl 2)), some (.inl n), some (.inl a), some (.inl (b + 1))], [], mS n (m_up T (9 * a + b) (fpS n a b)), 0, 0)) rfl ?_
    refine m_weak [some (.inr (.inl 2)), some (.inl n), some (.inl a), some (.inl (b + 1))] ⟨rfl, ⟨rfl, ⟨rfl, ⟨rfl, trivial⟩⟩⟩⟩ ?_
    exact ih _ (okT_up hT (by omega) (by omega)) (fill_s hf hi1 hi2 (by omega) rfl)
set_option maxHeartbeats 4000000 in
set_option maxRecDepth 100000 in
theorem s_bfO {X : Nat × Nat × (Nat → Int32)} {n : Int} {Q : Option mPV → mPW → Prop} (hn : okN n) (K : ∀ T : Int → Int, okT T → fill n (fpS n) T n 0 → Q none (mS n T)) : ∀ a : Int, 0 ≤ a → a ≤ n → ∀ (T : Int → Int) (hT : okT T) (hf : fill n (fpS n) T a 0), m_Sem X 21 (7, [some (.inr (.inl 2)), some (.inl n), some (.inl a), none], [], mS n T, 0, 0) (Q) := by
  have hl := okN_lo hn
  refine m_down 0 n ?_ ?_
  · intro T hT hf
    show m_Sem X 21 (7, [some (.inr (.inl 2)), some (.inl n), some (.inl n), none], [], mS n T, 0, 0) _
    refine m_run 2 (ps' := (9, [some (.inr (.inl 2)), some (.inl n), some (.inl n), none], [.inl n, .inl n], mS n T, 0, 0)) rfl ?_
    refine m_icmp rfl ⟨by omega, by omega⟩ ⟨by omega, by omega⟩ (fun (zc1 : n ≤ n) => ?_) (fun (zc1 : ¬ n ≤ n) => absurd zc1 (not_not_intro (by omega)))
    exact m_ret0 rfl rfl rfl (K T hT hf)
  · intro a hi1 hi2 ih T hT hf
    refine m_run 2 (ps' := (9, [some (.inr (.inl 2)), some (.inl n), some (.inl a), none], [.inl n, .inl a], mS n T, 0, 0)) rfl ?_
    refine m_icmp rfl ⟨by omega, by omega⟩ ⟨by omega, by omega⟩ (fun (zc1 : n ≤ a) => absurd zc1 (by omega)) (fun (zc1 : ¬ n ≤ a) => ?_)
    refine m_run 2 (ps' := (14, [some (.inr (.inl 2)), some (.inl n), some (.inl a), some (.inl 0)], [], mS n T, 0, 0)) rfl ?_
    refine m_weak [some (.inr (.inl 2)), some (.inl n), some (.inl a), some (.inl 0)] ⟨rfl, ⟨rfl, ⟨rfl, ⟨rfl, trivial⟩⟩⟩⟩ ?_
    exact s_bfI hn hi1 hi2 ih 0 (by omega) (by omega) T hT hf
set_option maxHeartbeats 4000000 in
set_option maxRecDepth 100000 in
theorem s_bf {X : Nat × Nat × (Nat → Int32)} {n : Int} {n0 : Int} {T : Int → Int} (hn : okN n) (hT : okT T) : m_Run X 21 [.inr (.inl 2), .inl n] (mS n0 T) (fun r w => r = none ∧ ∃ T2, w = mS n T2 ∧ okT T2 ∧ ∀ a b, 0 ≤ a → a < n → 0 ≤ b → b < n → T2 (9 * a + b) = fpS n a b) := by
  have hl := okN_lo hn
  show m_Sem X 21 (0, [some (.inr (.inl 2)), some (.inl n), none, none], [], mS n0 T, 0, 0) _
  refine m_run 5 (ps' := (7, [some (.inr (.inl 2)), some (.inl n), some (.inl 0), none], [], mS n T, 0, 0)) rfl ?_
  refine m_weak [some (.inr (.inl 2)), some (.inl n), some (.inl 0), none] ⟨rfl, ⟨rfl, ⟨rfl, trivial⟩⟩⟩ ?_
  exact s_bfO hn (fun T2 hT2 hf => ⟨rfl, T2, rfl, hT2, fill_e hf⟩) 0 (by omega) (by omega) T hT fill_0
set_option maxHeartbeats 4000000 in
set_option maxRecDepth 100000 in
theorem i_ring {X : Nat × Nat × (Nat → Int32)} : m_Run X 13 [.inr (.inl 2)] ([.inr (5, [.inr (.inr .null), .inr (.inr .null), .inr (.inr .null), .inr (.inr .null), .inr (.inr .null)]), .inr (2, [.inr (.inr .null)]), .inr (3, [.inl 0, .inr (.inr .null)])]) (fun r w => r = none ∧ ∃ T2, w = mS 3 T2 ∧ okT T2 ∧ ∀ a b, 0 ≤ a → a < 3 → 0 ≤ b → b < 3 → T2 (9 * a + b) = fpS 3 a b) := by
  show m_Sem X 13 (0, [some (.inr (.inl 2))], [], [.inr (5, [.inr (.inr .null), .inr (.inr .null), .inr (.inr .null), .inr (.inr .null), .inr (.inr .null)]), .inr (2, [.inr (.inr .null)]), .inr (3, [.inl 0, .inr (.inr .null)])], 1, 81) _
  refine m_run 8 (ps' := (14, [some (.inr (.inl 2))], [.inl 3, .inr (.inl 2)], mS 0 (fun _ => 0), 0, 0)) rfl ?_
  refine m_callV [.inl 3] [] rfl rfl ⟨_, rfl, rfl⟩ rfl rfl (s_bf (by unfold okN; omega) (fun j _ _ => ⟨Int.le_refl 0, by decide⟩)) (fun r_ w_ hq_ _ => ?_)
  obtain ⟨rfl, T2, rfl, hT2, hF2⟩ := hq_
  show m_Sem X 13 (17, [some (.inr (.inl 2))], [], mS 3 T2, 0, 0) _
  exact m_ret0 rfl rfl rfl ⟨rfl, T2, rfl, hT2, hF2⟩
set_option maxHeartbeats 4000000 in
set_option maxRecDepth 100000 in
theorem i_plane {X : Nat × Nat × (Nat → Int32)} : m_Run X 11 [.inr (.inl 1)] ([.inr (5, [.inr (.inr .null), .inr (.inr .null), .inr (.inr .null), .inr (.inr .null), .inr (.inr .null)]), .inr (2, [.inr (.inr .null)])]) (fun r w => r = none ∧ ∃ T2, w = [.inr (5, [.inr (.inr .null), .inr (.inr .null), .inr (.inr .null), .inr (.inr .null), .inr (.inr .null)]), .inr (2, [.inr (.inl 2)]), .inr (3, [.inl 3, .inr (.inl 3)]), .inl (0, 81, .inl T2)] ∧ okT T2 ∧ ∀ a b, 0 ≤ a → a < 3 → 0 ≤ b → b < 3 → T2 (9 * a + b) = fpS 3 a b) := by
  show m_Sem X 11 (0, [some (.inr (.inl 1))], [], [.inr (5, [.inr (.inr .null), .inr (.inr .null), .inr (.inr .null), .inr (.inr .null), .inr (.inr .null)]), .inr (2, [.inr (.inr .null)])], 2, 83) _
  refine m_run 5 (ps' := (9, [some (.inr (.inl 1))], [.inr (.inl 2), .inr (.inl 2), .inr (.inl 1)], [.inr (5, [.inr (.inr .null), .inr (.inr .null), .inr (.inr .null), .inr (.inr .null), .inr (.inr .null)]), .inr (2, [.inr (.inr .null)]), .inr (3, [.inl 0, .inr (.inr .null)])], 1, 81)) rfl ?_
  refine m_callI [] [.inr (.inl 2), .inr (.inl 1)] rfl rfl rfl i_ring (fun r_ w_ hq_ _ => ?_)
  obtain ⟨rfl, T2, rfl, hT2, hF2⟩ := hq_
  show m_Sem X 11 (12, [some (.inr (.inl 1))], [.inr (.inl 2), .inr (.inl 1)], mS 3 T2, 0, 0) _
  refine m_run 1 (ps' := (15, [some (.inr (.inl 1))], [], [.inr (5, [.inr (.inr .null), .inr (.inr .null), .inr (.inr .null), .inr (.inr .null), .inr (.inr .null)]), .inr (2, [.inr (.inl 2)]), .inr (3, [.inl 3, .inr (.inl 3)]), .inl (0, 81, .inl T2)], 0, 0)) rfl ?_
  exact m_ret0 rfl rfl rfl ⟨rfl, T2, rfl, hT2, hF2⟩
set_option maxHeartbeats 4000000 in
set_option maxRecDepth 100000 in
theorem i_his {X : Nat × Nat × (Nat → Int32)} {c0_ c1_ c2_ c3_ : mPC} : m_Run X 1 [.inr (.inl 4)] ([c0_, c1_, c2_, c3_, .inr (0, [.inr (.inr .null), .inr (.inr .null), .inl 0])]) (m_U [c0_, c1_, c2_, c3_, .inr (0, [.inr (.inl 5), .inr (.inl 6), .inl 0]), .inl (0, 4, .inl (fun _ => 0)), .inl (0, 324, .inl (fun _ => 0))]) := by
  show m_Sem X 1 (0, [some (.inr (.inl 4))], [], [c0_, c1_, c2_, c3_, .inr (0, [.inr (.inr .null), .inr (.inr .null), .inl 0])], 2, 328) _
  refine m_run 10 (ps' := (20, [some (.inr (.inl 4))], [], [c0_, c1_, c2_, c3_, .inr (0, [.inr (.inl 5), .inr (.inl 6), .inl 0]), .inl (0, 4, .inl (fun _ => 0)), .inl (0, 324, .inl (fun _ => 0))], 0, 0)) rfl ?_
  exact m_ret0 rfl rfl rfl ⟨rfl, rfl⟩
set_option maxHeartbeats 4000000 in
set_option maxRecDepth 100000 in
theorem i_tex {X : Nat × Nat × (Nat → Int32)} {c0_ c1_ c2_ c3_ c4_ c5_ c6_ : mPC} : m_Run X 28 [.inr (.inl 7)] ([c0_, c1_, c2_, c3_, c4_, c5_, c6_, .inr (4, [.inr (.inr .null), .inl 0])]) (m_U [c0_, c1_, c2_, c3_, c4_, c5_, c6_, .inr (4, [.inr (.inl 8), .inl 0]), .inl (1, 60, .inl (fun _ => 0))]) := by
  show m_Sem X 28 (0, [some (.inr (.inl 7))], [], [c0_, c1_, c2_, c3_, c4_, c5_, c6_, .inr (4, [.inr (.inr .null), .inl 0])], 1, 60) _
  refine m_run 6 (ps' := (12, [some (.inr (.inl 7))], [], [c0_, c1_, c2_, c3_, c4_, c5_, c6_, .inr (4, [.inr (.inl 8), .inl 0]), .inl (1, 60, .inl (fun _ => 0))], 0, 0)) rfl ?_
  exact m_ret0 rfl rfl rfl ⟨rfl, rfl⟩
set_option maxHeartbeats 4000000 in
set_option maxRecDepth 100000 in
theorem i_mir {X : Nat × Nat × (Nat → Int32)} {c0_ c1_ c2_ c3_ c4_ c5_ c6_ c7_ c8_ : mPC} : m_Run X 10 [.inr (.inl 9)] ([c0_, c1_, c2_, c3_, c4_, c5_, c6_, c7_, c8_, .inr (1, [.inr (.inr .null), .inr (.inr .null), .inr (.inr .null), .inl 0, .inl 0, .inl 0])]) (m_U [c0_, c1_, c2_, c3_, c4_, c5_, c6_, c7_, c8_, .inr (1, [.inr (.inl 10), .inr (.inl 11), .inr (.inl 12), .inl 0, .inl 0, .inl 0]), .inl (0, 91, .inl (fun _ => 0)), .inl (0, 91, .inl (fun _ => 0)), .inl (0, 91, .inl (fun _ => 0))]) := by
  show m_Sem X 10 (0, [some (.inr (.inl 9))], [], [c0_, c1_, c2_, c3_, c4_, c5_, c6_, c7_, c8_, .inr (1, [.inr (.inr .null), .inr (.inr .null), .inr (.inr .null), .inl 0, .inl 0, .inl 0])], 3, 273) _
  refine m_run 14 (ps' := (28, [some (.inr (.inl 9))], [], [c0_, c1_, c2_, c3_, c4_, c5_, c6_, c7_, c8_, .inr (1, [.inr (.inl 10), .inr (.inl 11), .inr (.inl 12), .inl 0, .inl 0, .inl 0]), .inl (0, 91, .inl (fun _ => 0)), .inl (0, 91, .inl (fun _ => 0)), .inl (0, 91, .inl (fun _ => 0))], 0, 0)) rfl ?_
  exact m_ret0 rfl rfl rfl ⟨rfl, rfl⟩
set_option maxHeartbeats 4000000 in
set_option maxRecDepth 100000 in
theorem i_rp {X : Nat × Nat × (Nat → Int32)} : m_Run X 29 [.inr (.inl 0)] ([.inr (5, [.inr (.inr .null), .inr (.inr .null), .inr (.inr .null), .inr (.inr .null), .inr (.inr .null)])]) (fun r w => r = none ∧ ∃ T2, w = mC (3, T2, (0, (fun _ => 0), (fun _ => 0)), (0, (fun _ => 0)), ((fun _ => 0), (fun _ => 0), (fun _ => 0), 0, 0, 0)) ∧ okT T2 ∧ ∀ a b, 0 ≤ a → a < 3 → 0 ≤ b → b < 3 → T2 (9 * a + b) = fpS 3 a b) := by
  show m_Sem X 29 (0, [some (.inr (.inl 0))], [], [.inr (5, [.inr (.inr .null), .inr (.inr .null), .inr (.inr .null), .inr (.inr .null), .inr (.inr .null)])], 12, 756) _
  refine m_run 5 (ps' := (9, [some (.inr (.inl 0))], [.inr (.inl 1), .inr (.inl 1), .inr (.inl 0)], [.inr (5, [.inr (.inr .null), .inr (.inr .null), .inr (.inr .null), .inr (.inr .null), .inr (.inr .null)]), .inr (2, [.inr (.inr .null)])], 11, 755)) rfl ?_
  refine m_callI [] [.inr (.inl 1), .inr (.inl 0)] rfl rfl rfl i_plane (fun r_ w_ hq_ _ => ?_)
  obtain ⟨rfl, T2, rfl, hT2, hF2⟩ := hq_
  show m_Sem X 29 (12, [some (.inr (.inl 0))], [.inr (.inl 1), .inr (.inl 0)], [.inr (5, [.inr (.inr .null), .inr (.inr .null), .inr (.inr .null), .inr (.inr .null), .inr (.inr .null)]), .inr (2, [.inr (.inl 2)]), .inr (3, [.inl 3, .inr (.inl 3)]), .inl (0, 81, .inl T2)], 9, 672) _
  refine m_run 9 (ps' := (31, [some (.inr (.inl 0))], [.inr (.inl 4), .inr (.inl 4), .inr (.inl 0)], [.inr (5, [.inr (.inl 1), .inr (.inl 2), .inr (.inr .null), .inr (.inr .null), .inr (.inr .null)]), .inr (2, [.inr (.inl 2)]), .inr (3, [.inl 3, .inr (.inl 3)]), .inl (0, 81, .inl T2), .inr (0, [.inr (.inr .null), .inr (.inr .null), .inl 0])], 8, 669)) rfl ?_
  refine m_callIU [] [.inr (.inl 4), .inr (.inl 0)] rfl rfl rfl i_his ?_
  show m_Sem X 29 (34, [some (.inr (.inl 0))], [.inr (.inl 4), .inr (.inl 0)], [.inr (5, [.inr (.inl 1), .inr (.inl 2), .inr (.inr .null), .inr (.inr .null), .inr (.inr .null)]), .inr (2, [.inr (.inl 2)]), .inr (3, [.inl 3, .inr (.inl 3)]), .inl (0, 81, .inl T2), .inr (0, [.inr (.inl 5), .inr (.inl 6), .inl 0]), .inl (0, 4, .inl (fun _ => 0)), .inl (0, 324, .inl (fun _ => 0))], 6, 341) _
  refine m_run 4 (ps' := (42, [some (.inr (.inl 0))], [.inr (.inl 7), .inr (.inl 7), .inr (.inl 0)], [.inr (5, [.inr (.inl 1), .inr (.inl 2), .inr (.inl 4), .inr (.inr .null), .inr (.inr .null)]), .inr (2, [.inr (.inl 2)]), .inr (3, [.inl 3, .inr (.inl 3)]), .inl (0, 81, .inl T2), .inr (0, [.inr (.inl 5), .inr (.inl 6), .inl 0]), .inl (0, 4, .inl (fun _ => 0)), .inl (0, 324, .inl (fun _ => 0)), .inr (4, [.inr (.inr .null), .inl 0])], 5, 339)) rfl ?_
  refine m_callIU [] [.inr (.inl 7), .inr (.inl 0)] rfl rfl rfl i_tex ?_
  show m_Sem X 29 (45, [some (.inr (.inl 0))], [.inr (.inl 7), .inr (.inl 0)], [.inr (5, [.inr (.inl 1), .inr (.inl 2), .inr (.inl 4), .inr (.inr .null), .inr (.inr .null)]), .inr (2, [.inr (.inl 2)]), .inr (3, [.inl 3, .inr (.inl 3)]), .inl (0, 81, .inl T2), .inr (0, [.inr (.inl 5), .inr (.inl 6), .inl 0]), .inl (0, 4, .inl (fun _ => 0)), .inl (0, 324, .inl (fun _ => 0)), .inr (4, [.inr (.inl 8), .inl 0]), .inl (1, 60, .inl (fun _ => 0))], 4, 279) _
  refine m_run 4 (ps' := (53, [some (.inr (.inl 0))], [.inr (.inl 9), .inr (.inl 9), .inr (.inl 0)], [.inr (5, [.inr (.inl 1), .inr (.inl 2), .inr (.inl 4), .inr (.inl 7), .inr (.inr .null)]), .inr (2, [.inr (.inl 2)]), .inr (3, [.inl 3, .inr (.inl 3)]), .inl (0, 81, .inl T2), .inr (0, [.inr (.inl 5), .inr (.inl 6), .inl 0]), .inl (0, 4, .inl (fun _ => 0)), .inl (0, 324, .inl (fun _ => 0)), .inr (4, [.inr (.inl 8), .inl 0]), .inl (1, 60, .inl (fun _ => 0)), .inr (1, [.inr (.inr .null), .inr (.inr .null), .inr (.inr .null), .inl 0, .inl 0, .inl 0])], 3, 273)) rfl ?_
  refine m_callIU [] [.inr (.inl 9), .inr (.inl 0)] rfl rfl rfl i_mir ?_
  show m_Sem X 29 (56, [some (.inr (.inl 0))], [.inr (.inl 9), .inr (.inl 0)], [.inr (5, [.inr (.inl 1), .inr (.inl 2), .inr (.inl 4), .inr (.inl 7), .inr (.inr .null)]), .inr (2, [.inr (.inl 2)]), .inr (3, [.inl 3, .inr (.inl 3)]), .inl (0, 81, .inl T2), .inr (0, [.inr (.inl 5), .inr (.inl 6), .inl 0]), .inl (0, 4, .inl (fun _ => 0)), .inl (0, 324, .inl (fun _ => 0)), .inr (4, [.inr (.inl 8), .inl 0]), .inl (1, 60, .inl (fun _ => 0)), .inr (1, [.inr (.inl 10), .inr (.inl 11), .inr (.inl 12), .inl 0, .inl 0, .inl 0]), .inl (0, 91, .inl (fun _ => 0)), .inl (0, 91, .inl (fun _ => 0)), .inl (0, 91, .inl (fun _ => 0))], 0, 0) _
  refine m_run 1 (ps' := (59, [some (.inr (.inl 0))], [], mC (3, T2, (0, (fun _ => 0), (fun _ => 0)), (0, (fun _ => 0)), ((fun _ => 0), (fun _ => 0), (fun _ => 0), 0, 0, 0)), 0, 0)) rfl ?_
  exact m_ret0 rfl rfl rfl ⟨rfl, T2, rfl, hT2, hF2⟩
