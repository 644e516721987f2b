/-- what is kept: S on top of P gives P2 -/
def svM (S : Int → Int) (P P2 : TS) : Prop := P2.1 = (if P.1 = 4 then 4 else P.1 + 1) ∧ (∀ k, 0 ≤ k → k < 82 → P2.2 (82 * (P2.1 - 1) + k) = S k) ∧ ∀ j, 0 ≤ j → j < 82 * (P2.1 - 1) → P2.2 j = P.2 (if P.1 = 4 then j + 82 else j)
set_option maxHeartbeats 4000000 in
set_option maxRecDepth 100000 in
theorem e_chg2 {X : Nat × Nat × (Nat → Int32)} {C : CS} {S : Int → Int} {K : TS} {F : Int × Int × Int} {B : (Nat → Int64) × (Nat → Int64)} {G : Int → Int} {E : Int × Int} {q : Int} {p0 : Int → Int} {Q : Option mPV → mPW → Prop} (hq1 : 0 ≤ q) (hq2 : q < 4) (K9 : ∀ p : Int → Int, (∀ j, 0 ≤ j → j < 82 → p (82 * q + j) = S j) → (∀ j, j < 82 * q → p j = p0 j) → Q none (mW C (S, (q + 1, p), K, F, B, G, E))) : ∀ iv : Int, 0 ≤ iv → iv ≤ 82 → ∀ (p : Int → Int) (hf : ∀ j, 0 ≤ j → j < iv → p (82 * q + j) = S j) (hg : ∀ j, j < 82 * q → p j = p0 j), m_Sem X 87 (50, [some (.inr (.inl 13)), some (.inl iv)], [], mW C (S, (q, p), K, F, B, G, E), 0, 0) (Q) := by
  refine m_down 0 82 ?_ ?_
  · intro p hf hg
    show m_Sem X 87 (50, [some (.inr (.inl 13)), some (.inl 82)], [], mW C (S, (q, p), K, F, B, G, E), 0, 0) _
    refine m_run 2 (ps' := (53, [some (.inr (.inl 13)), some (.inl 82)], [.inl 82, .inl 82], mW C (S, (q, p), K, F, B, G, E), 0, 0)) rfl ?_
    refine m_icmp rfl ⟨by omega, by omega⟩ ⟨by omega, by omega⟩ (fun (zc1 : 82 ≤ 82) => ?_) (fun (zc1 : ¬ 82 ≤ 82) => absurd zc1 (not_not_intro (by omega)))
    refine m_run 6 (ps' := (92, [some (.inr (.inl 13)), some (.inl 82)], [], mW C (S, ((q + 1), p), K, F, B, G, E), 0, 0)) rfl ?_
    exact m_ret0 rfl rfl rfl (K9 p hf hg)
  · intro iv hi1 hi2 ih p hf hg
    refine m_run 2 (ps' := (53, [some (.inr (.inl 13)), some (.inl iv)], [.inl 82, .inl iv], mW C (S, (q, p), K, F, B, G, E), 0, 0)) rfl ?_
    refine m_icmp rfl ⟨by omega, by omega⟩ ⟨by omega, by omega⟩ (fun (zc1 : 82 ≤ iv) => absurd zc1 (by omega)) (fun (zc1 : ¬ 82 ≤ iv) => ?_)
    refine m_run 11 (ps' := (74, [some (.inr (.inl 13)), some (.inl iv)], [.inl iv, .inr (.inl 14), .inl ((82 * q) + iv), .inr (.inl 15)], mW C (S, (q, p), K, F, B, G, E), 0, 0)) rfl ?_
    refine m_iald rfl rfl (by omega) (by omega) (by decide) ?_
    refine m_iast rfl rfl (by omega) (by omega) (by decide) ?_
    show m_Sem X 87 (76, [some (.inr (.inl 13)), some (.inl iv)], [], mW C (S, (q, (m_up p ((82 * q) + iv) (S iv))), K, F, B, G, E), 0, 0) _
    refine m_run 2 (ps' := (50, [some (.inr (.inl 13)), some (.inl (iv + 1))], [], mW C (S, (q, (m_up p ((82 * q) + iv) (S iv))), K, F, B, G, E), 0, 0)) rfl ?_
    refine m_weak [some (.inr (.inl 13)), some (.inl (iv + 1))] ⟨rfl, ⟨rfl, trivial⟩⟩ ?_
    refine ih _ (fun j h3 h4 => ?_) (fun j h3 => by rw [m_up_n p _ (by omega)]; exact hg j h3)
    by_cases he : j = iv
    · rw [he, m_up_s]
    · rw [m_up_n p _ (by omega)]; exact hf j h3 (by omega)
set_option maxHeartbeats 4000000 in
set_option maxRecDepth 100000 in
theorem e_chg1 {X : Nat × Nat × (Nat → Int32)} {C : CS} {S : Int → Int} {K : TS} {F : Int × Int × Int} {B : (Nat → Int64) × (Nat → Int64)} {G : Int → Int} {E : Int × Int} {p0 : Int → Int} {Q : Option mPV → mPW → Prop} (K9 : ∀ p : Int → Int, (∀ j, 0 ≤ j → j < 82 → p (82 * 3 + j) = S j) → (∀ j, 0 ≤ j → j < 82 * 3 → p j = p0 (j + 82)) → Q none (mW C (S, (4, p), K, F, B, G, E))) : ∀ iv : Int, 0 ≤ iv → iv ≤ 246 → ∀ (p : Int → Int) (hf : ∀ j, 0 ≤ j → j < iv → p j = p0 (j + 82)) (hg : ∀ j, iv ≤ j → p j = p0 j), m_Sem X 87 (10, [some (.inr (.inl 13)), some (.inl iv)], [], mW C (S, (4, p), K, F, B, G, E), 0, 0) (Q) := by
  refine m_down 0 246 ?_ ?_
  · intro p hf hg
    show m_Sem X 87 (10, [some (.inr (.inl 13)), some (.inl 246)], [], mW C (S, (4, p), K, F, B, G, E), 0, 0) _
    refine m_run 2 (ps' := (14, [some (.inr (.inl 13)), some (.inl 246)], [.inl 246, .inl 246], mW C (S, (4, p), K, F, B, G, E), 0, 0)) rfl ?_
    refine m_icmp rfl ⟨by omega, by omega⟩ ⟨by omega, by omega⟩ (fun (zc1 : 246 ≤ 246) => ?_) (fun (zc1 : ¬ 246 ≤ 246) => absurd zc1 (not_not_intro (by omega)))
    refine m_run 8 (ps' := (50, [some (.inr (.inl 13)), some (.inl 0)], [], mW C (S, ((4 - 1), p), K, F, B, G, E), 0, 0)) rfl ?_
    refine m_weak [some (.inr (.inl 13)), some (.inl 0)] ⟨rfl, ⟨rfl, trivial⟩⟩ ?_
    exact e_chg2 (q := 3) (p0 := p) (by omega) (by omega) (fun p2 h5 h6 => K9 p2 h5 (fun j h7 h8 => (h6 j h8).trans (hf j h7 h8))) 0 (by omega) (by omega) p (fun j h3 h4 => absurd h4 (by omega)) (fun j _ => rfl)
  · intro iv hi1 hi2 ih p hf hg
    refine m_run 2 (ps' := (14, [some (.inr (.inl 13)), some (.inl iv)], [.inl 246, .inl iv], mW C (S, (4, p), K, F, B, G, E), 0, 0)) rfl ?_
    refine m_icmp rfl ⟨by omega, by omega⟩ ⟨by omega, by omega⟩ (fun (zc1 : 246 ≤ iv) => absurd zc1 (by omega)) (fun (zc1 : ¬ 246 ≤ iv) => ?_)
    refine m_run 8 (ps' := (30, [some (.inr (.inl 13)), some (.inl iv)], [.inl (iv + 82), .inr (.inl 15), .inl iv, .inr (.inl 15)], mW C (S, (4, p), K, F, B, G, E), 0, 0)) rfl ?_
    refine m_iald rfl rfl (by omega) (by omega) (by decide) ?_
    refine m_iast rfl rfl (by omega) (by omega) (by decide) ?_
    show m_Sem X 87 (32, [some (.inr (.inl 13)), some (.inl iv)], [], mW C (S, (4, (m_up p iv (p (iv + 82)))), K, F, B, G, E), 0, 0) _
    refine m_run 2 (ps' := (10, [some (.inr (.inl 13)), some (.inl (iv + 1))], [], mW C (S, (4, (m_up p iv (p (iv + 82)))), K, F, B, G, E), 0, 0)) rfl ?_
    refine m_weak [some (.inr (.inl 13)), some (.inl (iv + 1))] ⟨rfl, ⟨rfl, trivial⟩⟩ ?_
    refine ih _ (fun j h3 h4 => ?_) (fun j h3 => by rw [m_up_n p _ (by omega)]; exact hg j (by omega))
    by_cases he : j = iv
    · rw [he, m_up_s]; exact hg _ (by omega)
    · rw [m_up_n p _ he]; exact hf j h3 (by omega)
set_option maxHeartbeats 4000000 in
set_option maxRecDepth 100000 in
theorem d_chg {X : Nat × Nat × (Nat → Int32)} {C : CS} {S : Int → Int} {K : TS} {F : Int × Int × Int} {B : (Nat → Int64) × (Nat → Int64)} {G : Int → Int} {E : Int × Int} {q : Int} {p : Int → Int} (hq1 : 0 ≤ q) (hq2 : q ≤ 4) : m_Run X 87 [.inr (.inl 13)] (mW C (S, (q, p), K, F, B, G, E)) (fun r w => r = none ∧ ∃ P2 : TS, w = mW C (S, P2, K, F, B, G, E) ∧ svM S (q, p) P2) := by
  show m_Sem X 87 (0, [some (.inr (.inl 13)), none], [], mW C (S, (q, p), K, F, B, G, E), 0, 0) _
  refine m_run 3 (ps' := (5, [some (.inr (.inl 13)), none], [.inl 4, .inl q], mW C (S, (q, p), K, F, B, G, E), 0, 0)) rfl ?_
  refine m_icmp rfl ⟨by omega, by omega⟩ ⟨by omega, by omega⟩ (fun (zc1 : ¬ q = 4) => ?_) (fun (zc1 : ¬ ¬ q = 4) => ?_)
  · refine m_run 2 (ps' := (50, [some (.inr (.inl 13)), some (.inl 0)], [], mW C (S, (q, p), K, F, B, G, E), 0, 0)) rfl ?_
    refine m_weak [some (.inr (.inl 13)), some (.inl 0)] ⟨rfl, ⟨rfl, trivial⟩⟩ ?_
    exact e_chg2 (q := q) (p0 := p) (by omega) (by omega) (fun p2 h5 h6 => ⟨rfl, (q + 1, p2), rfl, by show q + 1 = _; rw [if_neg zc1], by rw [show q + 1 - 1 = q by omega]; exact h5, fun j h7 h8 => by rw [if_neg zc1]; exact h6 j (by have h9 : j < 82 * (q + 1 - 1) := h8; omega)⟩) 0 (by omega) (by omega) p (fun j h3 h4 => absurd h4 (by omega)) (fun j _ => rfl)
  · replace zc1 : q = 4 := Decidable.not_not.mp zc1
    subst zc1
    refine m_run 2 (ps' := (10, [some (.inr (.inl 13)), some (.inl 0)], [], mW C (S, (4, p), K, F, B, G, E), 0, 0)) rfl ?_
    refine m_weak [some (.inr (.inl 13)), some (.inl 0)] ⟨rfl, ⟨rfl, trivial⟩⟩ ?_
    exact e_chg1 (p0 := p) (fun p2 h5 h6 => ⟨rfl, (4, p2), rfl, rfl, h5, fun j h7 h8 => h6 j h7 h8⟩) 0 (by omega) (by omega) p (fun j h3 h4 => absurd h4 (by omega)) (fun j _ => rfl)
/-- the table without the size -/
def shM (S : Int → Int) : Int → Int := fun j => S (j + 1)
theorem sh_at (S : Int → Int) (a b : Int) : shM S (9 * a + b) = S (1 + 9 * a + b) := congrArg S (by omega)
theorem sh_up (S : Int → Int) (a b v : Int) : shM (m_up S (1 + 9 * a + b) v) = m_up (shM S) (9 * a + b) v := by
  funext j
  unfold shM m_up
  by_cases h : j = 9 * a + b
  · rw [if_pos h, if_pos (by omega)]
  · rw [if_neg h, if_neg (by omega)]
theorem sh_0 (S : Int → Int) {a b : Int} (v : Int) (h1 : 0 ≤ a) (h2 : 0 ≤ b) : m_up S (1 + 9 * a + b) v 0 = S 0 := m_up_n S v (by omega)
theorem repM_C {n : Int} {S : Int → Int} {tb : Int → Int → Int} (h : repM n S tb) : repC n (shM S) tb := ⟨h.1, fun a b h1 h2 h3 h4 => by rw [sh_at]; exact h.2.2 a b h1 h2 h3 h4⟩
theorem repM_of {n : Int} {S : Int → Int} {tb : Int → Int → Int} (hn : okN n) (h0 : S 0 = n) (h : ∀ a b, 0 ≤ a → a < n → 0 ≤ b → b < n → shM S (9 * a + b) = tb a b ∧ 0 ≤ tb a b ∧ tb a b < n) : repM n S tb := ⟨hn, h0, fun a b h1 h2 h3 h4 => by rw [← sh_at S a b]; exact h a b h1 h2 h3 h4⟩
set_option maxHeartbeats 4000000 in
set_option maxRecDepth 100000 in
theorem d_field {X : Nat × Nat × (Nat → Int32)} {C : CS} {n : Int} {S : Int → Int} {K : TS} {F : Int × Int × Int} {B : (Nat → Int64) × (Nat → Int64)} {G : Int → Int} {E : Int × Int} {q : Int} {p : Int → Int} {e : Int} (he : m_R e) (hok : okN e) (hn : okN n) (hs0 : S 0 = n) (hq1 : 0 ≤ q) (hq2 : q ≤ 4) : m_Run X 97 [.inr (.inl 13), .inl e] (mW C (S, (q, p), K, F, B, G, E)) (fun r w => r = some (.inl n) ∧ ∃ (P2 : TS) (S3 : Int → Int), w = mW C (S3, P2, K, F, B, G, E) ∧ svM S (q, p) P2 ∧ fillM e S3 9 0) := by
  have hl := okN_lo hn
  have hok2 := hok
  unfold okN at hok2
  show m_Sem X 97 (0, [some (.inr (.inl 13)), some (.inl e), none], [], mW C (S, (q, p), K, F, B, G, E), 0, 0) _
  refine m_run 2 (ps' := (2, [some (.inr (.inl 13)), some (.inl e), none], [.inl 2, .inl e], mW C (S, (q, p), K, F, B, G, E), 0, 0)) rfl ?_
  refine m_icmp rfl he ⟨by omega, by omega⟩ (fun (zc1 : e = 2) => ?_) (fun (zc1 : ¬ e = 2) => ?_)
  · refine m_run 1 (ps' := (36, [some (.inr (.inl 13)), some (.inl e), none], [.inr (.inl 13)], mW C (S, (q, p), K, F, B, G, E), 0, 0)) rfl ?_
    refine m_callV [] [] rfl rfl ⟨_, rfl, rfl⟩ rfl rfl (d_chg hq1 hq2) (fun r_ w_ hq_ _ => ?_)
    obtain ⟨rfl, P2, rfl, hsv⟩ := hq_
    show m_Sem X 97 (39, [some (.inr (.inl 13)), some (.inl e), none], [], mW C (S, P2, K, F, B, G, E), 0, 0) _
    refine m_run 3 (ps' := (44, [some (.inr (.inl 13)), some (.inl e), none], [.inl 0, .inr (.inl 14)], mW C (S, P2, K, F, B, G, E), 0, 0)) rfl ?_
    refine m_iald rfl rfl (by omega) (by omega) (by decide) ?_
    show m_Sem X 97 (45, [some (.inr (.inl 13)), some (.inl e), none], [.inl (S 0)], mW C (S, P2, K, F, B, G, E), 0, 0) _
    rw [hs0]
    refine m_run 5 (ps' := (52, [some (.inr (.inl 13)), some (.inl e), some (.inl n)], [.inl e, .inl 0, .inr (.inl 14)], mW C (S, P2, K, F, B, G, E), 0, 0)) rfl ?_
    refine m_iast rfl rfl (by omega) (by omega) (by decide) ?_
    show m_Sem X 97 (53, [some (.inr (.inl 13)), some (.inl e), some (.inl n)], [], mW C ((m_up S 0 e), P2, K, F, B, G, E), 0, 0) _
    refine m_run 1 (ps' := (54, [some (.inr (.inl 13)), some (.inl e), some (.inl n)], [.inr (.inl 13)], mW C ((m_up S 0 e), P2, K, F, B, G, E), 0, 0)) rfl ?_
    refine m_callV [] [] rfl rfl ⟨_, rfl, rfl⟩ rfl rfl (d_lays (n := e) hok (m_up_s _ _ _)) (fun r_ w_ hq_ _ => ?_)
    obtain ⟨rfl, S3, rfl, hfm⟩ := hq_
    show m_Sem X 97 (57, [some (.inr (.inl 13)), some (.inl e), some (.inl n)], [], mW C (S3, P2, K, F, B, G, E), 0, 0) _
    refine m_run 1 (ps' := (58, [some (.inr (.inl 13)), some (.inl e), some (.inl n)], [.inl n], mW C (S3, P2, K, F, B, G, E), 0, 0)) rfl ?_
    exact m_ret1 rfl (Or.inl rfl) rfl (⟨rfl, P2, S3, rfl, hsv, hfm⟩)
  · refine m_run 2 (ps' := (7, [some (.inr (.inl 13)), some (.inl e), none], [.inl 3, .inl e], mW C (S, (q, p), K, F, B, G, E), 0, 0)) rfl ?_
    refine m_icmp rfl he ⟨by omega, by omega⟩ (fun (zc2 : e = 3) => ?_) (fun (zc2 : ¬ e = 3) => ?_)
    · refine m_run 1 (ps' := (36, [some (.inr (.inl 13)), some (.inl e), none], [.inr (.inl 13)], mW C (S, (q, p), K, F, B, G, E), 0, 0)) rfl ?_
      refine m_callV [] [] rfl rfl ⟨_, rfl, rfl⟩ rfl rfl (d_chg hq1 hq2) (fun r_ w_ hq_ _ => ?_)
      obtain ⟨rfl, P2, rfl, hsv⟩ := hq_
      show m_Sem X 97 (39, [some (.inr (.inl 13)), some (.inl e), none], [], mW C (S, P2, K, F, B, G, E), 0, 0) _
      refine m_run 3 (ps' := (44, [some (.inr (.inl 13)), some (.inl e), none], [.inl 0, .inr (.inl 14)], mW C (S, P2, K, F, B, G, E), 0, 0)) rfl ?_
      refine m_iald rfl rfl (by omega) (by omega) (by decide) ?_
      show m_Sem X 97 (45, [some (.inr (.inl 13)), some (.inl e), none], [.inl (S 0)], mW C (S, P2, K, F, B, G, E), 0, 0) _
      rw [hs0]
      refine m_run 5 (ps' := (52, [some (.inr (.inl 13)), some (.inl e), some (.inl n)], [.inl e, .inl 0, .inr (.inl 14)], mW C (S, P2, K, F, B, G, E), 0, 0)) rfl ?_
      refine m_iast rfl rfl (by omega) (by omega) (by decide) ?_
      show m_Sem X 97 (53, [some (.inr (.inl 13)), some (.inl e), some (.inl n)], [], mW C ((m_up S 0 e), P2, K, F, B, G, E), 0, 0) _
      refine m_run 1 (ps' := (54, [some (.inr (.inl 13)), some (.inl e), some (.inl n)], [.inr (.inl 13)], mW C ((m_up S 0 e), P2, K, F, B, G, E), 0, 0)) rfl ?_
      refine m_callV [] [] rfl rfl ⟨_, rfl, rfl⟩ rfl rfl (d_lays (n := e) hok (m_up_s _ _ _)) (fun r_ w_ hq_ _ => ?_)
      obtain ⟨rfl, S3, rfl, hfm⟩ := hq_
      show m_Sem X 97 (57, [some (.inr (.inl 13)), some (.inl e), some (.inl n)], [], mW C (S3, P2, K, F, B, G, E), 0, 0) _
      refine m_run 1 (ps' := (58, [some (.inr (.inl 13)), some (.inl e), some (.inl n)], [.inl n], mW C (S3, P2, K, F, B, G, E), 0, 0)) rfl ?_
      exact m_ret1 rfl (Or.inl rfl) rfl (⟨rfl, P2, S3, rfl, hsv, hfm⟩)
    · refine m_run 2 (ps' := (12, [some (.inr (.inl 13)), some (.inl e), none], [.inl 4, .inl e], mW C (S, (q, p), K, F, B, G, E), 0, 0)) rfl ?_
      refine m_icmp rfl he ⟨by omega, by omega⟩ (fun (zc3 : e = 4) => ?_) (fun (zc3 : ¬ e = 4) => ?_)
      · refine m_run 1 (ps' := (36, [some (.inr (.inl 13)), some (.inl e), none], [.inr (.inl 13)], mW C (S, (q, p), K, F, B, G, E), 0, 0)) rfl ?_
        refine m_callV [] [] rfl rfl ⟨_, rfl, rfl⟩ rfl rfl (d_chg hq1 hq2) (fun r_ w_ hq_ _ => ?_)
        obtain ⟨rfl, P2, rfl, hsv⟩ := hq_
        show m_Sem X 97 (39, [some (.inr (.inl 13)), some (.inl e), none], [], mW C (S, P2, K, F, B, G, E), 0, 0) _
        refine m_run 3 (ps' := (44, [some (.inr (.inl 13)), some (.inl e), none], [.inl 0, .inr (.inl 14)], mW C (S, P2, K, F, B, G, E), 0, 0)) rfl ?_
        refine m_iald rfl rfl (by omega) (by omega) (by decide) ?_
        show m_Sem X 97 (45, [some (.inr (.inl 13)), some (.inl e), none], [.inl (S 0)], mW C (S, P2, K, F, B, G, E), 0, 0) _
        rw [hs0]
        refine m_run 5 (ps' := (52, [some (.inr (.inl 13)), some (.inl e), some (.inl n)], [.inl e, .inl 0, .inr (.inl 14)], mW C (S, P2, K, F, B, G, E), 0, 0)) rfl ?_
        refine m_iast rfl rfl (by omega) (by omega) (by decide) ?_
        show m_Sem X 97 (53, [some (.inr (.inl 13)), some (.inl e), some (.inl n)], [], mW C ((m_up S 0 e), P2, K, F, B, G, E), 0, 0) _
        refine m_run 1 (ps' := (54, [some (.inr (.inl 13)), some (.inl e), some (.inl n)], [.inr (.inl 13)], mW C ((m_up S 0 e), P2, K, F, B, G, E), 0, 0)) rfl ?_
        refine m_callV [] [] rfl rfl ⟨_, rfl, rfl⟩ rfl rfl (d_lays (n := e) hok (m_up_s _ _ _)) (fun r_ w_ hq_ _ => ?_)
        obtain ⟨rfl, S3, rfl, hfm⟩ := hq_
        show m_Sem X 97 (57, [some (.inr (.inl 13)), some (.inl e), some (.inl n)], [], mW C (S3, P2, K, F, B, G, E), 0, 0) _
        refine m_run 1 (ps' := (58, [some (.inr (.inl 13)), some (.inl e), some (.inl n)], [.inl n], mW C (S3, P2, K, F, B, G, E), 0, 0)) rfl ?_
        exact m_ret1 rfl (Or.inl rfl) rfl (⟨rfl, P2, S3, rfl, hsv, hfm⟩)
      · refine m_run 2 (ps' := (17, [some (.inr (.inl 13)), some (.inl e), none], [.inl 5, .inl e], mW C (S, (q, p), K, F, B, G, E), 0, 0)) rfl ?_
        refine m_icmp rfl he ⟨by omega, by omega⟩ (fun (zc4 : e = 5) => ?_) (fun (zc4 : ¬ e = 5) => ?_)
        · refine m_run 1 (ps' := (36, [some (.inr (.inl 13)), some (.inl e), none], [.inr (.inl 13)], mW C (S, (q, p), K, F, B, G, E), 0, 0)) rfl ?_
          refine m_callV [] [] rfl rfl ⟨_, rfl, rfl⟩ rfl rfl (d_chg hq1 hq2) (fun r_ w_ hq_ _ => ?_)
          obtain ⟨rfl, P2, rfl, hsv⟩ := hq_
          show m_Sem X 97 (39, [some (.inr (.inl 13)), some (.inl e), none], [], mW C (S, P2, K, F, B, G, E), 0, 0) _
          refine m_run 3 (ps' := (44, [some (.inr (.inl 13)), some (.inl e), none], [.inl 0, .inr (.inl 14)], mW C (S, P2, K, F, B, G, E), 0, 0)) rfl ?_
          refine m_iald rfl rfl (by omega) (by omega) (by decide) ?_
          show m_Sem X 97 (45, [some (.inr (.inl 13)), some (.inl e), none], [.inl (S 0)], mW C (S, P2, K, F, B, G, E), 0, 0) _
          rw [hs0]
          refine m_run 5 (ps' := (52, [some (.inr (.inl 13)), some (.inl e), some (.inl n)], [.inl e, .inl 0, .inr (.inl 14)], mW C (S, P2, K, F, B, G, E), 0, 0)) rfl ?_
          refine m_iast rfl rfl (by omega) (by omega) (by decide) ?_
          show m_Sem X 97 (53, [some (.inr (.inl 13)), some (.inl e), some (.inl n)], [], mW C ((m_up S 0 e), P2, K, F, B, G, E), 0, 0) _
          refine m_run 1 (ps' := (54, [some (.inr (.inl 13)), some (.inl e), some (.inl n)], [.inr (.inl 13)], mW C ((m_up S 0 e), P2, K, F, B, G, E), 0, 0)) rfl ?_
          refine m_callV [] [] rfl rfl ⟨_, rfl, rfl⟩ rfl rfl (d_lays (n := e) hok (m_up_s _ _ _)) (fun r_ w_ hq_ _ => ?_)
          obtain ⟨rfl, S3, rfl, hfm⟩ := hq_
          show m_Sem X 97 (57, [some (.inr (.inl 13)), some (.inl e), some (.inl n)], [], mW C (S3, P2, K, F, B, G, E), 0, 0) _
          refine m_run 1 (ps' := (58, [some (.inr (.inl 13)), some (.inl e), some (.inl n)], [.inl n], mW C (S3, P2, K, F, B, G, E), 0, 0)) rfl ?_
          exact m_ret1 rfl (Or.inl rfl) rfl (⟨rfl, P2, S3, rfl, hsv, hfm⟩)
        · refine m_run 2 (ps' := (23, [some (.inr (.inl 13)), some (.inl e), none], [.inl 7, .inl e], mW C (S, (q, p), K, F, B, G, E), 0, 0)) rfl ?_
          refine m_icmp rfl he ⟨by omega, by omega⟩ (fun (zc5 : e = 7) => ?_) (fun (zc5 : ¬ e = 7) => ?_)
          · refine m_run 1 (ps' := (36, [some (.inr (.inl 13)), some (.inl e), none], [.inr (.inl 13)], mW C (S, (q, p), K, F, B, G, E), 0, 0)) rfl ?_
            refine m_callV [] [] rfl rfl ⟨_, rfl, rfl⟩ rfl rfl (d_chg hq1 hq2) (fun r_ w_ hq_ _ => ?_)
            obtain ⟨rfl, P2, rfl, hsv⟩ := hq_
            show m_Sem X 97 (39, [some (.inr (.inl 13)), some (.inl e), none], [], mW C (S, P2, K, F, B, G, E), 0, 0) _
            refine m_run 3 (ps' := (44, [some (.inr (.inl 13)), some (.inl e), none], [.inl 0, .inr (.inl 14)], mW C (S, P2, K, F, B, G, E), 0, 0)) rfl ?_
            refine m_iald rfl rfl (by omega) (by omega) (by decide) ?_
            show m_Sem X 97 (45, [some (.inr (.inl 13)), some (.inl e), none], [.inl (S 0)], mW C (S, P2, K, F, B, G, E), 0, 0) _
            rw [hs0]
            refine m_run 5 (ps' := (52, [some (.inr (.inl 13)), some (.inl e), some (.inl n)], [.inl e, .inl 0, .inr (.inl 14)], mW C (S, P2, K, F, B, G, E), 0, 0)) rfl ?_
            refine m_iast rfl rfl (by omega) (by omega) (by decide) ?_
            show m_Sem X 97 (53, [some (.inr (.inl 13)), some (.inl e), some (.inl n)], [], mW C ((m_up S 0 e), P2, K, F, B, G, E), 0, 0) _
            refine m_run 1 (ps' := (54, [some (.inr (.inl 13)), some (.inl e), some (.inl n)], [.inr (.inl 13)], mW C ((m_up S 0 e), P2, K, F, B, G, E), 0, 0)) rfl ?_
            refine m_callV [] [] rfl rfl ⟨_, rfl, rfl⟩ rfl rfl (d_lays (n := e) hok (m_up_s _ _ _)) (fun r_ w_ hq_ _ => ?_)
            obtain ⟨rfl, S3, rfl, hfm⟩ := hq_
            show m_Sem X 97 (57, [some (.inr (.inl 13)), some (.inl e), some (.inl n)], [], mW C (S3, P2, K, F, B, G, E), 0, 0) _
            refine m_run 1 (ps' := (58, [some (.inr (.inl 13)), some (.inl e), some (.inl n)], [.inl n], mW C (S3, P2, K, F, B, G, E), 0, 0)) rfl ?_
            exact m_ret1 rfl (Or.inl rfl) rfl (⟨rfl, P2, S3, rfl, hsv, hfm⟩)
          · refine m_run 2 (ps' := (29, [some (.inr (.inl 13)), some (.inl e), none], [.inl 9, .inl e], mW C (S, (q, p), K, F, B, G, E), 0, 0)) rfl ?_
            refine m_icmp rfl he ⟨by omega, by omega⟩ (fun (zc6 : e = 9) => ?_) (fun (zc6 : ¬ e = 9) => absurd zc6 (not_not_intro (by omega)))
            refine m_run 1 (ps' := (36, [some (.inr (.inl 13)), some (.inl e), none], [.inr (.inl 13)], mW C (S, (q, p), K, F, B, G, E), 0, 0)) rfl ?_
            refine m_callV [] [] rfl rfl ⟨_, rfl, rfl⟩ rfl rfl (d_chg hq1 hq2) (fun r_ w_ hq_ _ => ?_)
            obtain ⟨rfl, P2, rfl, hsv⟩ := hq_
            show m_Sem X 97 (39, [some (.inr (.inl 13)), some (.inl e), none], [], mW C (S, P2, K, F, B, G, E), 0, 0) _
            refine m_run 3 (ps' := (44, [some (.inr (.inl 13)), some (.inl e), none], [.inl 0, .inr (.inl 14)], mW C (S, P2, K, F, B, G, E), 0, 0)) rfl ?_
            refine m_iald rfl rfl (by omega) (by omega) (by decide) ?_
            show m_Sem X 97 (45, [some (.inr (.inl 13)), some (.inl e), none], [.inl (S 0)], mW C (S, P2, K, F, B, G, E), 0, 0) _
            rw [hs0]
            refine m_run 5 (ps' := (52, [some (.inr (.inl 13)), some (.inl e), some (.inl n)], [.inl e, .inl 0, .inr (.inl 14)], mW C (S, P2, K, F, B, G, E), 0, 0)) rfl ?_
            refine m_iast rfl rfl (by omega) (by omega) (by decide) ?_
            show m_Sem X 97 (53, [some (.inr (.inl 13)), some (.inl e), some (.inl n)], [], mW C ((m_up S 0 e), P2, K, F, B, G, E), 0, 0) _
            refine m_run 1 (ps' := (54, [some (.inr (.inl 13)), some (.inl e), some (.inl n)], [.inr (.inl 13)], mW C ((m_up S 0 e), P2, K, F, B, G, E), 0, 0)) rfl ?_
            refine m_callV [] [] rfl rfl ⟨_, rfl, rfl⟩ rfl rfl (d_lays (n := e) hok (m_up_s _ _ _)) (fun r_ w_ hq_ _ => ?_)
            obtain ⟨rfl, S3, rfl, hfm⟩ := hq_
            show m_Sem X 97 (57, [some (.inr (.inl 13)), some (.inl e), some (.inl n)], [], mW C (S3, P2, K, F, B, G, E), 0, 0) _
            refine m_run 1 (ps' := (58, [some (.inr (.inl 13)), some (.inl e), some (.inl n)], [.inl n], mW C (S3, P2, K, F, B, G, E), 0, 0)) rfl ?_
            exact m_ret1 rfl (Or.inl rfl) rfl (⟨rfl, P2, S3, rfl, hsv, hfm⟩)
set_option maxHeartbeats 4000000 in
set_option maxRecDepth 100000 in
theorem d_fieldN {X : Nat × Nat × (Nat → Int32)} {C : CS} {S : Int → Int} {P K : TS} {F : Int × Int × Int} {B : (Nat → Int64) × (Nat → Int64)} {G : Int → Int} {E : Int × Int} {e : Int} (he : m_R e) (hno : ¬ okN e) : m_Run X 97 [.inr (.inl 13), .inl e] (mW C (S, P, K, F, B, G, E)) (m_V (-1000001) (mW C (S, P, K, F, B, G, E))) := by
  unfold okN at hno
  show m_Sem X 97 (0, [some (.inr (.inl 13)), some (.inl e), none], [], mW C (S, P, K, F, B, G, E), 0, 0) _
  refine m_run 2 (ps' := (2, [some (.inr (.inl 13)), some (.inl e), none], [.inl 2, .inl e], mW C (S, P, K, F, B, G, E), 0, 0)) rfl ?_
  refine m_icmp rfl he ⟨by omega, by omega⟩ (fun (zc1 : e = 2) => absurd zc1 (by omega)) (fun (zc1 : ¬ e = 2) => ?_)
  refine m_run 2 (ps' := (7, [some (.inr (.inl 13)), some (.inl e), none], [.inl 3, .inl e], mW C (S, P, K, F, B, G, E), 0, 0)) rfl ?_
  refine m_icmp rfl he ⟨by omega, by omega⟩ (fun (zc2 : e = 3) => absurd zc2 (by omega)) (fun (zc2 : ¬ e = 3) => ?_)
  refine m_run 2 (ps' := (12, [some (.inr (.inl 13)), some (.inl e), none], [.inl 4, .inl e], mW C (S, P, K, F, B, G, E), 0, 0)) rfl ?_
  refine m_icmp rfl he ⟨by omega, by omega⟩ (fun (zc3 : e = 4) => absurd zc3 (by omega)) (fun (zc3 : ¬ e = 4) => ?_)
  refine m_run 2 (ps' := (17, [some (.inr (.inl 13)), some (.inl e), none], [.inl 5, .inl e], mW C (S, P, K, F, B, G, E), 0, 0)) rfl ?_
  refine m_icmp rfl he ⟨by omega, by omega⟩ (fun (zc4 : e = 5) => absurd zc4 (by omega)) (fun (zc4 : ¬ e = 5) => ?_)
  refine m_run 2 (ps' := (23, [some (.inr (.inl 13)), some (.inl e), none], [.inl 7, .inl e], mW C (S, P, K, F, B, G, E), 0, 0)) rfl ?_
  refine m_icmp rfl he ⟨by omega, by omega⟩ (fun (zc5 : e = 7) => absurd zc5 (by omega)) (fun (zc5 : ¬ e = 7) => ?_)
  refine m_run 2 (ps' := (29, [some (.inr (.inl 13)), some (.inl e), none], [.inl 9, .inl e], mW C (S, P, K, F, B, G, E), 0, 0)) rfl ?_
  refine m_icmp rfl he ⟨by omega, by omega⟩ (fun (zc6 : e = 9) => absurd zc6 (by omega)) (fun (zc6 : ¬ e = 9) => ?_)
  refine m_run 1 (ps' := (34, [some (.inr (.inl 13)), some (.inl e), none], [.inl (-1000001)], mW C (S, P, K, F, B, G, E), 0, 0)) rfl ?_
  exact m_ret1 rfl (Or.inl rfl) rfl (m_Vi rfl)
set_option maxHeartbeats 4000000 in
set_option maxRecDepth 100000 in
theorem e_sqr {X : Nat × Nat × (Nat → Int32)} {C : CS} {S : Int → Int} {P K : TS} {F : Int × Int × Int} {B : (Nat → Int64) × (Nat → Int64)} {G : Int → Int} {E : Int × Int} {b : Int} {v : Bool} (hs0 : S 0 = 9) (hb : 0 ≤ b) (hb2 : b < 9) : ∀ iv : Int, 0 ≤ iv → iv ≤ 9 → ∀ (o : Bool) (ho : (o || ! allF (fun x => ! decide (fpS 9 x x = b)) (9 - iv).toNat iv) = v), m_Sem X 98 (12, [some (.inr (.inl 13)), some (.inl b), some (.inl (bI o)), some (.inl iv)], [], mW C (S, P, K, F, B, G, E), 0, 0) (m_V (bI v) (mW C (S, P, K, F, B, G, E))) := by
  have hn : okN 9 := by unfold okN; omega
  refine m_down 0 9 ?_ ?_
  · intro o ho
    show m_Sem X 98 (12, [some (.inr (.inl 13)), some (.inl b), some (.inl (bI o)), some (.inl 9)], [], mW C (S, P, K, F, B, G, E), 0, 0) _
    refine m_run 2 (ps' := (15, [some (.inr (.inl 13)), some (.inl b), some (.inl (bI o)), some (.inl 9)], [.inl 9, .inl 9], mW C (S, P, K, F, B, G, E), 0, 0)) rfl ?_
    refine m_icmp rfl ⟨by omega, by omega⟩ ⟨by omega, by omega⟩ (fun (zc1 : 9 ≤ 9) => ?_) (fun (zc1 : ¬ 9 ≤ 9) => absurd zc1 (not_not_intro (by omega)))
    refine m_run 1 (ps' := (45, [some (.inr (.inl 13)), some (.inl b), some (.inl (bI o)), some (.inl 9)], [.inl (bI o)], mW C (S, P, K, F, B, G, E), 0, 0)) rfl ?_
    exact m_ret1 rfl (Or.inr ⟨rfl, bI_01 o⟩) rfl (show m_V (bI v) _ (some (.inl (bI o))) _ from m_Vb (by rw [all_end] at ho; rw [← ho]; simp))
  · intro iv hi1 hi2 ih o ho
    refine m_run 2 (ps' := (15, [some (.inr (.inl 13)), some (.inl b), some (.inl (bI o)), some (.inl iv)], [.inl 9, .inl iv], mW C (S, P, K, F, B, G, E), 0, 0)) rfl ?_
    refine m_icmp rfl ⟨by omega, by omega⟩ ⟨by omega, by omega⟩ (fun (zc1 : 9 ≤ iv) => absurd zc1 (by omega)) (fun (zc1 : ¬ 9 ≤ iv) => ?_)
    refine m_run 1 (ps' := (19, [some (.inr (.inl 13)), some (.inl b), some (.inl (bI o)), some (.inl iv)], [.inl (bI o)], mW C (S, P, K, F, B, G, E), 0, 0)) rfl ?_
    refine m_if rfl (bI_R o) (fun (zc2 : ¬ (bI o) = 0) => ?_) (fun (zc2 : ¬ ¬ (bI o) = 0) => ?_)
    · replace zc2 : o = true := bI_n0.mp zc2
      refine m_run 5 (ps' := (12, [some (.inr (.inl 13)), some (.inl b), some (.inl 1), some (.inl (iv + 1))], [], mW C (S, P, K, F, B, G, E), 0, 0)) rfl ?_
      refine m_weak [some (.inr (.inl 13)), some (.inl b), some (.inl 1), some (.inl (iv + 1))] ⟨rfl, ⟨rfl, ⟨rfl, ⟨rfl, trivial⟩⟩⟩⟩ ?_
      rw [zc2] at ho
      exact ih true ho
    · replace zc2 : o = false := bI_e0.mp (Decidable.not_not.mp zc2)
      refine m_run 3 (ps' := (25, [some (.inr (.inl 13)), some (.inl b), some (.inl (bI o)), some (.inl iv)], [.inl iv, .inl iv, .inr (.inl 13)], mW C (S, P, K, F, B, G, E), 0, 0)) rfl ?_
      refine m_callVF [.inl iv, .inl iv] [] rfl rfl ⟨_, rfl, rfl⟩ rfl rfl (d_fp (n := 9) (a := iv) (b := iv) hn hs0 (by omega) (by omega) (by omega) (by omega)) ?_
      have zt1 := fpS_in (n := 9) (a := iv) (b := iv) hn (by omega) (by omega) (by omega) (by omega)
      show m_Sem X 98 (28, [some (.inr (.inl 13)), some (.inl b), some (.inl (bI o)), some (.inl iv)], [.inl (fpS 9 iv iv)], mW C (S, P, K, F, B, G, E), 0, 0) _
      refine m_run 1 (ps' := (29, [some (.inr (.inl 13)), some (.inl b), some (.inl (bI o)), some (.inl iv)], [.inl b, .inl (fpS 9 iv iv)], mW C (S, P, K, F, B, G, E), 0, 0)) rfl ?_
      refine m_icmp rfl ⟨by omega, by omega⟩ ⟨by omega, by omega⟩ (fun (zc3 : ¬ (fpS 9 iv iv) = b) => ?_) (fun (zc3 : ¬ ¬ (fpS 9 iv iv) = b) => ?_)
      · refine m_run 4 (ps' := (12, [some (.inr (.inl 13)), some (.inl b), some (.inl 0), some (.inl (iv + 1))], [], mW C (S, P, K, F, B, G, E), 0, 0)) rfl ?_
        refine m_weak [some (.inr (.inl 13)), some (.inl b), some (.inl 0), some (.inl (iv + 1))] ⟨rfl, ⟨rfl, ⟨rfl, ⟨rfl, trivial⟩⟩⟩⟩ ?_
        rw [zc2, all_t hi2 (by rw [decide_eq_false zc3]; rfl)] at ho
        exact ih false ho
      · replace zc3 : (fpS 9 iv iv) = b := Decidable.not_not.mp zc3
        refine m_run 5 (ps' := (12, [some (.inr (.inl 13)), some (.inl b), some (.inl 1), some (.inl (iv + 1))], [], mW C (S, P, K, F, B, G, E), 0, 0)) rfl ?_
        refine m_weak [some (.inr (.inl 13)), some (.inl b), some (.inl 1), some (.inl (iv + 1))] ⟨rfl, ⟨rfl, ⟨rfl, ⟨rfl, trivial⟩⟩⟩⟩ ?_
        rw [zc2, all_f hi2 (by rw [decide_eq_true zc3]; rfl)] at ho
        exact ih true ho
set_option maxHeartbeats 4000000 in
set_option maxRecDepth 100000 in
theorem d_sqr {X : Nat × Nat × (Nat → Int32)} {C : CS} {S : Int → Int} {P K : TS} {F : Int × Int × Int} {B : (Nat → Int64) × (Nat → Int64)} {G : Int → Int} {E : Int × Int} {b : Int} (hs0 : S 0 = 9) (hb : 0 ≤ b) (hb2 : b < 9) : m_Run X 98 [.inr (.inl 13), .inl b] (mW C (S, P, K, F, B, G, E)) (m_V (bI (sqS 9 b)) (mW C (S, P, K, F, B, G, E))) := by
  have hn : okN 9 := by unfold okN; omega
  show m_Sem X 98 (0, [some (.inr (.inl 13)), some (.inl b), none, none], [], mW C (S, P, K, F, B, G, E), 0, 0) _
  refine m_run 1 (ps' := (1, [some (.inr (.inl 13)), some (.inl b), none, none], [.inl b], mW C (S, P, K, F, B, G, E), 0, 0)) rfl ?_
  refine m_if rfl ⟨by omega, by omega⟩ (fun (zc1 : ¬ b = 0) => ?_) (fun (zc1 : ¬ ¬ b = 0) => ?_)
  · refine m_run 4 (ps' := (12, [some (.inr (.inl 13)), some (.inl b), some (.inl 0), some (.inl 0)], [], mW C (S, P, K, F, B, G, E), 0, 0)) rfl ?_
    refine m_weak [some (.inr (.inl 13)), some (.inl b), some (.inl 0), some (.inl 0)] ⟨rfl, ⟨rfl, ⟨rfl, ⟨rfl, trivial⟩⟩⟩⟩ ?_
    exact e_sqr (v := sqS 9 b) hs0 hb hb2 0 (by omega) (by omega) false (by rw [z_sub]; rfl)
  · replace zc1 : b = 0 := Decidable.not_not.mp zc1
    refine m_run 5 (ps' := (12, [some (.inr (.inl 13)), some (.inl b), some (.inl 1), some (.inl 0)], [], mW C (S, P, K, F, B, G, E), 0, 0)) rfl ?_
    refine m_weak [some (.inr (.inl 13)), some (.inl b), some (.inl 1), some (.inl 0)] ⟨rfl, ⟨rfl, ⟨rfl, ⟨rfl, trivial⟩⟩⟩⟩ ?_
    exact e_sqr (v := sqS 9 b) hs0 hb hb2 0 (by omega) (by omega) true (by rw [zc1]; decide)
theorem twS_in {a b : Int} (h1 : 0 ≤ a) (h2 : a < 9) (h3 : 0 ≤ b) (h4 : b < 9) : 0 ≤ twS a b ∧ twS a b < 9 := by
  have hn : okN 9 := by unfold okN; omega
  unfold twS
  cases sqS 9 b
  · have h5 := cubeS_in h1 h2
    exact fpS_in (n := 9) hn h5.1 h5.2 h3 h4
  · exact fpS_in (n := 9) hn h1 h2 h3 h4
set_option maxHeartbeats 4000000 in
set_option maxRecDepth 100000 in
theorem e_twI {X : Nat × Nat × (Nat → Int32)} {C : CS} {P K : TS} {F : Int × Int × Int} {B : (Nat → Int64) × (Nat → Int64)} {G : Int → Int} {E : Int × Int} {tb : Int → Int → Int} {b : Int} {Q : Option mPV → mPW → Prop} {v : Int} (hb : 0 ≤ b) (hb2 : b < 9) (htb : ∀ a b, 0 ≤ a → a < 9 → 0 ≤ b → b < 9 → 0 ≤ tb a b ∧ tb a b < 9) (K9 : ∀ S : Int → Int, S 0 = 9 → fillT twS tb (shM S) (b + 1) 0 → m_Sem X 99 (22, [some (.inr (.inl 13)), some (.inl v), some (.inl (b + 1)), none, none, none], [], mW C (S, P, K, F, B, G, E), 0, 0) Q) : ∀ a : Int, 0 ≤ a → a ≤ 9 → ∀ (S : Int → Int) (u : Int) (hs0 : S 0 = 9) (hf : fillT twS tb (shM S) b a) (hu : u + sumF (fun a => if tb a b = twS a b then 0 else 1) (9 - a).toNat a = v), m_Sem X 99 (37, [some (.inr (.inl 13)), some (.inl u), some (.inl b), some (.inl (bI (sqS 9 b))), some (.inl a), none], [], mW C (S, P, K, F, B, G, E), 0, 0) (Q) := by
  have hn : okN 9 := by unfold okN; omega
  refine m_down 0 9 ?_ ?_
  · intro S u hs0 hf hu
    rw [sum_end] at hu
    have hu : u = v := by omega
    subst hu
    show m_Sem X 99 (37, [some (.inr (.inl 13)), some (.inl u), some (.inl b), some (.inl (bI (sqS 9 b))), some (.inl 9), none], [], mW C (S, P, K, F, B, G, E), 0, 0) _
    refine m_run 2 (ps' := (41, [some (.inr (.inl 13)), some (.inl u), some (.inl b), some (.inl (bI (sqS 9 b))), some (.inl 9), none], [.inl 9, .inl 9], mW C (S, P, K, F, B, G, E), 0, 0)) rfl ?_
    refine m_icmp rfl ⟨by omega, by omega⟩ ⟨by omega, by omega⟩ (fun (zc1 : 9 ≤ 9) => ?_) (fun (zc1 : ¬ 9 ≤ 9) => absurd zc1 (not_not_intro (by omega)))
    refine m_run 2 (ps' := (22, [some (.inr (.inl 13)), some (.inl u), some (.inl (b + 1)), some (.inl (bI (sqS 9 b))), some (.inl 9), none], [], mW C (S, P, K, F, B, G, E), 0, 0)) rfl ?_
    refine m_weak [some (.inr (.inl 13)), some (.inl u), some (.inl (b + 1)), none, none, none] ⟨rfl, ⟨rfl, ⟨rfl, trivial⟩⟩⟩ ?_
    exact K9 S hs0 (fillT_r hf)
  · intro a hi1 hi2 ih S u hs0 hf hu
    rw [sum_step hi2] at hu
    have hpe := hf a b hi1 hi2 hb hb2
    rw [if_neg (by omega), sh_at] at hpe
    have hb9 := htb a b hi1 hi2 hb hb2
    have zt0 := cubeS_in hi1 hi2
    refine m_run 2 (ps' := (41, [some (.inr (.inl 13)), some (.inl u), some (.inl b), some (.inl (bI (sqS 9 b))), some (.inl a), none], [.inl 9, .inl a], mW C (S, P, K, F, B, G, E), 0, 0)) rfl ?_
    refine m_icmp rfl ⟨by omega, by omega⟩ ⟨by omega, by omega⟩ (fun (zc1 : 9 ≤ a) => absurd zc1 (by omega)) (fun (zc1 : ¬ 9 ≤ a) => ?_)
    refine m_run 2 (ps' := (46, [some (.inr (.inl 13)), some (.inl u), some (.inl b), some (.inl (bI (sqS 9 b))), some (.inl a), none], [.inl (bI (sqS 9 b)), .inr (.inl 13)], mW C (S, P, K, F, B, G, E), 0, 0)) rfl ?_
    refine m_if rfl (bI_R (sqS 9 b)) (fun (zc2 : (bI (sqS 9 b)) = 0) => ?_) (fun (zc2 : ¬ (bI (sqS 9 b)) = 0) => ?_)
    · replace zc2 : (sqS 9 b) = false := bI_e0.mp zc2
      refine m_run 4 (ps' := (60, [some (.inr (.inl 13)), some (.inl u), some (.inl b), some (.inl (bI (sqS 9 b))), some (.inl a), none], [.inl a, .inl a, .inr (.inl 13), .inr (.inl 13), .inr (.inl 13)], mW C (S, P, K, F, B, G, E), 0, 0)) rfl ?_
      refine m_callVF [.inl a, .inl a] [.inr (.inl 13), .inr (.inl 13)] rfl rfl ⟨_, rfl, rfl⟩ rfl rfl (d_fp (n := 9) (a := a) (b := a) hn hs0 (by omega) (by omega) (by omega) (by omega)) ?_
      have zt1 := fpS_in (n := 9) (a := a) (b := a) hn (by omega) (by omega) (by omega) (by omega)
      show m_Sem X 99 (63, [some (.inr (.inl 13)), some (.inl u), some (.inl b), some (.inl (bI (sqS 9 b))), some (.inl a), none], [.inl (fpS 9 a a), .inr (.inl 13), .inr (.inl 13)], mW C (S, P, K, F, B, G, E), 0, 0) _
      refine m_run 1 (ps' := (65, [some (.inr (.inl 13)), some (.inl u), some (.inl b), some (.inl (bI (sqS 9 b))), some (.inl a), none], [.inl a, .inl (fpS 9 a a), .inr (.inl 13), .inr (.inl 13)], mW C (S, P, K, F, B, G, E), 0, 0)) rfl ?_
      refine m_callVF [.inl (fpS 9 a a), .inl a] [.inr (.inl 13)] rfl rfl ⟨_, rfl, rfl⟩ rfl rfl (d_fp (n := 9) (a := (fpS 9 a a)) (b := a) hn hs0 (by omega) (by omega) (by omega) (by omega)) ?_
      have zt2 := fpS_in (n := 9) (a := (fpS 9 a a)) (b := a) hn (by omega) (by omega) (by omega) (by omega)
      show m_Sem X 99 (68, [some (.inr (.inl 13)), some (.inl u), some (.inl b), some (.inl (bI (sqS 9 b))), some (.inl a), none], [.inl (fpS 9 (fpS 9 a a) a), .inr (.inl 13)], mW C (S, P, K, F, B, G, E), 0, 0) _
      refine m_run 1 (ps' := (69, [some (.inr (.inl 13)), some (.inl u), some (.inl b), some (.inl (bI (sqS 9 b))), some (.inl a), none], [.inl b, .inl (fpS 9 (fpS 9 a a) a), .inr (.inl 13)], mW C (S, P, K, F, B, G, E), 0, 0)) rfl ?_
      refine m_callVF [.inl (fpS 9 (fpS 9 a a) a), .inl b] [] rfl rfl ⟨_, rfl, rfl⟩ rfl rfl (d_fp (n := 9) (a := (fpS 9 (fpS 9 a a) a)) (b := b) hn hs0 (by omega) (by omega) (by omega) (by omega)) ?_
      have zt3 := fpS_in (n := 9) (a := (fpS 9 (fpS 9 a a) a)) (b := b) hn (by omega) (by omega) (by omega) (by omega)
      show m_Sem X 99 (72, [some (.inr (.inl 13)), some (.inl u), some (.inl b), some (.inl (bI (sqS 9 b))), some (.inl a), none], [.inl (fpS 9 (fpS 9 (fpS 9 a a) a) b)], mW C (S, P, K, F, B, G, E), 0, 0) _
      refine m_run 6 (ps' := (81, [some (.inr (.inl 13)), some (.inl u), some (.inl b), some (.inl (bI (sqS 9 b))), some (.inl a), some (.inl (fpS 9 (fpS 9 (fpS 9 a a) a) b))], [.inl b, .inl a, .inr (.inl 13), .inl (fpS 9 (fpS 9 (fpS 9 a a) a) b), .inl u], mW C (S, P, K, F, B, G, E), 0, 0)) rfl ?_
      refine m_callVF [.inl a, .inl b] [.inl (fpS 9 (fpS 9 (fpS 9 a a) a) b), .inl u] rfl rfl ⟨_, rfl, rfl⟩ rfl rfl (d_raw (S := S) (a := a) (b := b) (by omega) (by omega)) ?_
      show m_Sem X 99 (84, [some (.inr (.inl 13)), some (.inl u), some (.inl b), some (.inl (bI (sqS 9 b))), some (.inl a), some (.inl (fpS 9 (fpS 9 (fpS 9 a a) a) b))], [.inl (S (1 + 9 * a + b)), .inl (fpS 9 (fpS 9 (fpS 9 a a) a) b), .inl u], mW C (S, P, K, F, B, G, E), 0, 0) _
      refine m_icmp rfl ⟨by omega, by omega⟩ ⟨by omega, by omega⟩ (fun (zc3 : ¬ (fpS 9 (fpS 9 (fpS 9 a a) a) b) = (S (1 + 9 * a + b))) => ?_) (fun (zc3 : ¬ ¬ (fpS 9 (fpS 9 (fpS 9 a a) a) b) = (S (1 + 9 * a + b))) => ?_)
      · refine m_run 7 (ps' := (100, [some (.inr (.inl 13)), some (.inl (u + 1)), some (.inl b), some (.inl (bI (sqS 9 b))), some (.inl a), some (.inl (fpS 9 (fpS 9 (fpS 9 a a) a) b))], [.inl (fpS 9 (fpS 9 (fpS 9 a a) a) b), .inl b, .inl a, .inr (.inl 13)], mW C (S, P, K, F, B, G, E), 0, 0)) rfl ?_
        refine m_callVU [.inl a, .inl b, .inl (fpS 9 (fpS 9 (fpS 9 a a) a) b)] [] rfl rfl ⟨_, rfl, rfl⟩ rfl rfl (d_set (S := S) (a := a) (b := b) (r := (fpS 9 (fpS 9 (fpS 9 a a) a) b)) (by omega) (by omega)) ?_
        show m_Sem X 99 (103, [some (.inr (.inl 13)), some (.inl (u + 1)), some (.inl b), some (.inl (bI (sqS 9 b))), some (.inl a), some (.inl (fpS 9 (fpS 9 (fpS 9 a a) a) b))], [], mW C ((m_up S (1 + 9 * a + b) (fpS 9 (fpS 9 (fpS 9 a a) a) b)), P, K, F, B, G, E), 0, 0) _
        refine m_run 2 (ps' := (37, [some (.inr (.inl 13)), some (.inl (u + 1)), some (.inl b), some (.inl (bI (sqS 9 b))), some (.inl (a + 1)), some (.inl (fpS 9 (fpS 9 (fpS 9 a a) a) b))], [], mW C ((m_up S (1 + 9 * a + b) (fpS 9 (fpS 9 (fpS 9 a a) a) b)), P, K, F, B, G, E), 0, 0)) rfl ?_
        refine m_weak [some (.inr (.inl 13)), some (.inl (u + 1)), some (.inl b), some (.inl (bI (sqS 9 b))), some (.inl (a + 1)), none] ⟨rfl, ⟨rfl, ⟨rfl, ⟨rfl, ⟨rfl, trivial⟩⟩⟩⟩⟩ ?_
        have htw : twS a b = fpS 9 (bif sqS 9 b then a else cubeS a) b := rfl
        rw [zc2] at htw
        simp only [cond_true, cond_false, cubeS] at htw
        refine ih _ _ ((sh_0 _ _ hi1 hb).trans hs0) (by rw [sh_up]; exact fillT_s hf hi1 hi2 hb hb2 htw.symm) ?_
        rw [← hu]
        rw [hpe, ← htw] at zc3
        rw [if_neg (fun h8 => zc3 h8.symm)]
        omega
      · replace zc3 : (fpS 9 (fpS 9 (fpS 9 a a) a) b) = (S (1 + 9 * a + b)) := Decidable.not_not.mp zc3
        refine m_run 8 (ps' := (100, [some (.inr (.inl 13)), some (.inl (u + 0)), some (.inl b), some (.inl (bI (sqS 9 b))), some (.inl a), some (.inl (fpS 9 (fpS 9 (fpS 9 a a) a) b))], [.inl (fpS 9 (fpS 9 (fpS 9 a a) a) b), .inl b, .inl a, .inr (.inl 13)], mW C (S, P, K, F, B, G, E), 0, 0)) rfl ?_
        refine m_callVU [.inl a, .inl b, .inl (fpS 9 (fpS 9 (fpS 9 a a) a) b)] [] rfl rfl ⟨_, rfl, rfl⟩ rfl rfl (d_set (S := S) (a := a) (b := b) (r := (fpS 9 (fpS 9 (fpS 9 a a) a) b)) (by omega) (by omega)) ?_
        show m_Sem X 99 (103, [some (.inr (.inl 13)), some (.inl (u + 0)), some (.inl b), some (.inl (bI (sqS 9 b))), some (.inl a), some (.inl (fpS 9 (fpS 9 (fpS 9 a a) a) b))], [], mW C ((m_up S (1 + 9 * a + b) (fpS 9 (fpS 9 (fpS 9 a a) a) b)), P, K, F, B, G, E), 0, 0) _
        refine m_run 2 (ps' := (37, [some (.inr (.inl 13)), some (.inl (u + 0)), some (.inl b), some (.inl (bI (sqS 9 b))), some (.inl (a + 1)), some (.inl (fpS 9 (fpS 9 (fpS 9 a a) a) b))], [], mW C ((m_up S (1 + 9 * a + b) (fpS 9 (fpS 9 (fpS 9 a a) a) b)), P, K, F, B, G, E), 0, 0)) rfl ?_
        refine m_weak [some (.inr (.inl 13)), some (.inl (u + 0)), some (.inl b), some (.inl (bI (sqS 9 b))), some (.inl (a + 1)), none] ⟨rfl, ⟨rfl, ⟨rfl, ⟨rfl, ⟨rfl, trivial⟩⟩⟩⟩⟩ ?_
        have htw : twS a b = fpS 9 (bif sqS 9 b then a else cubeS a) b := rfl
        rw [zc2] at htw
        simp only [cond_true, cond_false, cubeS] at htw
        refine ih _ _ ((sh_0 _ _ hi1 hb).trans hs0) (by rw [sh_up]; exact fillT_s hf hi1 hi2 hb hb2 htw.symm) ?_
        rw [← hu]
        rw [hpe, ← htw] at zc3
        rw [if_pos zc3.symm]
        omega
    · replace zc2 : (sqS 9 b) = true := bI_n0.mp zc2
      refine m_run 3 (ps' := (69, [some (.inr (.inl 13)), some (.inl u), some (.inl b), some (.inl (bI (sqS 9 b))), some (.inl a), none], [.inl b, .inl a, .inr (.inl 13)], mW C (S, P, K, F, B, G, E), 0, 0)) rfl ?_
      refine m_callVF [.inl a, .inl b] [] rfl rfl ⟨_, rfl, rfl⟩ rfl rfl (d_fp (n := 9) (a := a) (b := b) hn hs0 (by omega) (by omega) (by omega) (by omega)) ?_
      have zt1 := fpS_in (n := 9) (a := a) (b := b) hn (by omega) (by omega) (by omega) (by omega)
      show m_Sem X 99 (72, [some (.inr (.inl 13)), some (.inl u), some (.inl b), some (.inl (bI (sqS 9 b))), some (.inl a), none], [.inl (fpS 9 a b)], mW C (S, P, K, F, B, G, E), 0, 0) _
      refine m_run 6 (ps' := (81, [some (.inr (.inl 13)), some (.inl u), some (.inl b), some (.inl (bI (sqS 9 b))), some (.inl a), some (.inl (fpS 9 a b))], [.inl b, .inl a, .inr (.inl 13), .inl (fpS 9 a b), .inl u], mW C (S, P, K, F, B, G, E), 0, 0)) rfl ?_
      refine m_callVF [.inl a, .inl b] [.inl (fpS 9 a b), .inl u] rfl rfl ⟨_, rfl, rfl⟩ rfl rfl (d_raw (S := S) (a := a) (b := b) (by omega) (by omega)) ?_
      show m_Sem X 99 (84, [some (.inr (.inl 13)), some (.inl u), some (.inl b), some (.inl (bI (sqS 9 b))), some (.inl a), some (.inl (fpS 9 a b))], [.inl (S (1 + 9 * a + b)), .inl (fpS 9 a b), .inl u], mW C (S, P, K, F, B, G, E), 0, 0) _
      refine m_icmp rfl ⟨by omega, by omega⟩ ⟨by omega, by omega⟩ (fun (zc3 : ¬ (fpS 9 a b) = (S (1 + 9 * a + b))) => ?_) (fun (zc3 : ¬ ¬ (fpS 9 a b) = (S (1 + 9 * a + b))) => ?_)
      · refine m_run 7 (ps' := (100, [some (.inr (.inl 13)), some (.inl (u + 1)), some (.inl b), some (.inl (bI (sqS 9 b))), some (.inl a), some (.inl (fpS 9 a b))], [.inl (fpS 9 a b), .inl b, .inl a, .inr (.inl 13)], mW C (S, P, K, F, B, G, E), 0, 0)) rfl ?_
        refine m_callVU [.inl a, .inl b, .inl (fpS 9 a b)] [] rfl rfl ⟨_, rfl, rfl⟩ rfl rfl (d_set (S := S) (a := a) (b := b) (r := (fpS 9 a b)) (by omega) (by omega)) ?_
        show m_Sem X 99 (103, [some (.inr (.inl 13)), some (.inl (u + 1)), some (.inl b), some (.inl (bI (sqS 9 b))), some (.inl a), some (.inl (fpS 9 a b))], [], mW C ((m_up S (1 + 9 * a + b) (fpS 9 a b)), P, K, F, B, G, E), 0, 0) _
        refine m_run 2 (ps' := (37, [some (.inr (.inl 13)), some (.inl (u + 1)), some (.inl b), some (.inl (bI (sqS 9 b))), some (.inl (a + 1)), some (.inl (fpS 9 a b))], [], mW C ((m_up S (1 + 9 * a + b) (fpS 9 a b)), P, K, F, B, G, E), 0, 0)) rfl ?_
        refine m_weak [some (.inr (.inl 13)), some (.inl (u + 1)), some (.inl b), some (.inl (bI (sqS 9 b))), some (.inl (a + 1)), none] ⟨rfl, ⟨rfl, ⟨rfl, ⟨rfl, ⟨rfl, trivial⟩⟩⟩⟩⟩ ?_
        have htw : twS a b = fpS 9 (bif sqS 9 b then a else cubeS a) b := rfl
        rw [zc2] at htw
        simp only [cond_true, cond_false, cubeS] at htw
        refine ih _ _ ((sh_0 _ _ hi1 hb).trans hs0) (by rw [sh_up]; exact fillT_s hf hi1 hi2 hb hb2 htw.symm) ?_
        rw [← hu]
        rw [hpe, ← htw] at zc3
        rw [if_neg (fun h8 => zc3 h8.symm)]
        omega
      · replace zc3 : (fpS 9 a b) = (S (1 + 9 * a + b)) := Decidable.not_not.mp zc3
        refine m_run 8 (ps' := (100, [some (.inr (.inl 13)), some (.inl (u + 0)), some (.inl b), some (.inl (bI (sqS 9 b))), some (.inl a), some (.inl (fpS 9 a b))], [.inl (fpS 9 a b), .inl b, .inl a, .inr (.inl 13)], mW C (S, P, K, F, B, G, E), 0, 0)) rfl ?_
        refine m_callVU [.inl a, .inl b, .inl (fpS 9 a b)] [] rfl rfl ⟨_, rfl, rfl⟩ rfl rfl (d_set (S := S) (a := a) (b := b) (r := (fpS 9 a b)) (by omega) (by omega)) ?_
        show m_Sem X 99 (103, [some (.inr (.inl 13)), some (.inl (u + 0)), some (.inl b), some (.inl (bI (sqS 9 b))), some (.inl a), some (.inl (fpS 9 a b))], [], mW C ((m_up S (1 + 9 * a + b) (fpS 9 a b)), P, K, F, B, G, E), 0, 0) _
        refine m_run 2 (ps' := (37, [some (.inr (.inl 13)), some (.inl (u + 0)), some (.inl b), some (.inl (bI (sqS 9 b))), some (.inl (a + 1)), some (.inl (fpS 9 a b))], [], mW C ((m_up S (1 + 9 * a + b) (fpS 9 a b)), P, K, F, B, G, E), 0, 0)) rfl ?_
        refine m_weak [some (.inr (.inl 13)), some (.inl (u + 0)), some (.inl b), some (.inl (bI (sqS 9 b))), some (.inl (a + 1)), none] ⟨rfl, ⟨rfl, ⟨rfl, ⟨rfl, ⟨rfl, trivial⟩⟩⟩⟩⟩ ?_
        have htw : twS a b = fpS 9 (bif sqS 9 b then a else cubeS a) b := rfl
        rw [zc2] at htw
        simp only [cond_true, cond_false, cubeS] at htw
        refine ih _ _ ((sh_0 _ _ hi1 hb).trans hs0) (by rw [sh_up]; exact fillT_s hf hi1 hi2 hb hb2 htw.symm) ?_
        rw [← hu]
        rw [hpe, ← htw] at zc3
        rw [if_pos zc3.symm]
        omega
set_option maxHeartbeats 4000000 in
set_option maxRecDepth 100000 in
theorem e_twO {X : Nat × Nat × (Nat → Int32)} {C : CS} {P K : TS} {F : Int × Int × Int} {B : (Nat → Int64) × (Nat → Int64)} {G : Int → Int} {E : Int × Int} {tb : Int → Int → Int} {Q : Option mPV → mPW → Prop} {v : Int} (htb : ∀ a b, 0 ≤ a → a < 9 → 0 ≤ b → b < 9 → 0 ≤ tb a b ∧ tb a b < 9) (K9 : ∀ S : Int → Int, S 0 = 9 → fillT twS tb (shM S) 9 0 → Q (some (.inl v)) (mW C (S, P, K, F, B, G, E))) : ∀ b : Int, 0 ≤ b → b ≤ 9 → ∀ (S : Int → Int) (u : Int) (hs0 : S 0 = 9) (hf : fillT twS tb (shM S) b 0) (hu : u + sumF (twR tb) (9 - b).toNat b = v), m_Sem X 99 (22, [some (.inr (.inl 13)), some (.inl u), some (.inl b), none, none, none], [], mW C (S, P, K, F, B, G, E), 0, 0) (Q) := by
  have hn : okN 9 := by unfold okN; omega
  refine m_down 0 9 ?_ ?_
  · intro S u hs0 hf hu
    rw [sum_end] at hu
    have hu : u = v := by omega
    subst hu
    show m_Sem X 99 (22, [some (.inr (.inl 13)), some (.inl u), some (.inl 9), none, none, none], [], mW C (S, P, K, F, B, G, E), 0, 0) _
    refine m_run 2 (ps' := (25, [some (.inr (.inl 13)), some (.inl u), some (.inl 9), none, none, none], [.inl 9, .inl 9], mW C (S, P, K, F, B, G, E), 0, 0)) rfl ?_
    refine m_icmp rfl ⟨by omega, by omega⟩ ⟨by omega, by omega⟩ (fun (zc1 : 9 ≤ 9) => ?_) (fun (zc1 : ¬ 9 ≤ 9) => absurd zc1 (not_not_intro (by omega)))
    refine m_run 1 (ps' := (116, [some (.inr (.inl 13)), some (.inl u), some (.inl 9), none, none, none], [.inl u], mW C (S, P, K, F, B, G, E), 0, 0)) rfl ?_
    exact m_ret1 rfl (Or.inl rfl) rfl (K9 S hs0 hf)
  · intro b hi1 hi2 ih S u hs0 hf hu
    rw [sum_step hi2] at hu
    refine m_run 2 (ps' := (25, [some (.inr (.inl 13)), some (.inl u), some (.inl b), none, none, none], [.inl 9, .inl b], mW C (S, P, K, F, B, G, E), 0, 0)) rfl ?_
    refine m_icmp rfl ⟨by omega, by omega⟩ ⟨by omega, by omega⟩ (fun (zc1 : 9 ≤ b) => absurd zc1 (by omega)) (fun (zc1 : ¬ 9 ≤ b) => ?_)
    refine m_run 2 (ps' := (30, [some (.inr (.inl 13)), some (.inl u), some (.inl b), none, none, none], [.inl b, .inr (.inl 13)], mW C (S, P, K, F, B, G, E), 0, 0)) rfl ?_
    refine m_callVF [.inl b] [] rfl rfl ⟨_, rfl, rfl⟩ rfl rfl (d_sqr (b := b) hs0 (by omega) (by omega)) ?_
    show m_Sem X 99 (33, [some (.inr (.inl 13)), some (.inl u), some (.inl b), none, none, none], [.inl (bI (sqS 9 b))], mW C (S, P, K, F, B, G, E), 0, 0) _
    refine m_run 3 (ps' := (37, [some (.inr (.inl 13)), some (.inl u), some (.inl b), some (.inl (bI (sqS 9 b))), some (.inl 0), none], [], mW C (S, P, K, F, B, G, E), 0, 0)) rfl ?_
    refine m_weak [some (.inr (.inl 13)), some (.inl u), some (.inl b), some (.inl (bI (sqS 9 b))), some (.inl 0), none] ⟨rfl, ⟨rfl, ⟨rfl, ⟨rfl, ⟨rfl, trivial⟩⟩⟩⟩⟩ ?_
    exact e_twI (v := u + twR tb b) hi1 hi2 htb (fun S2 hs2 hf2 => ih S2 _ hs2 hf2 (by rw [← hu]; omega)) 0 (by omega) (by omega) S u hs0 hf rfl
set_option maxHeartbeats 4000000 in
set_option maxRecDepth 100000 in
theorem d_twist {X : Nat × Nat × (Nat → Int32)} {C : CS} {S : Int → Int} {K : TS} {F : Int × Int × Int} {B : (Nat → Int64) × (Nat → Int64)} {G : Int → Int} {E : Int × Int} {q : Int} {p : Int → Int} {tb : Int → Int → Int} (hR : repM 9 S tb) (hq1 : 0 ≤ q) (hq2 : q ≤ 4) : m_Run X 99 [.inr (.inl 13)] (mW C (S, (q, p), K, F, B, G, E)) (fun r w => r = some (.inl (twC tb)) ∧ ∃ (P2 : TS) (S3 : Int → Int), w = mW C (S3, P2, K, F, B, G, E) ∧ svM S (q, p) P2 ∧ repM 9 S3 twS) := by
  have hs0 := hR.2.1
  show m_Sem X 99 (0, [some (.inr (.inl 13)), none, none, none, none, none], [], mW C (S, (q, p), K, F, B, G, E), 0, 0) _
  refine m_run 3 (ps' := (5, [some (.inr (.inl 13)), none, none, none, none, none], [.inl 0, .inr (.inl 14)], mW C (S, (q, p), K, F, B, G, E), 0, 0)) rfl ?_
  refine m_iald rfl rfl (by omega) (by omega) (by decide) ?_
  show m_Sem X 99 (6, [some (.inr (.inl 13)), none, none, none, none, none], [.inl (S 0)], mW C (S, (q, p), K, F, B, G, E), 0, 0) _
  rw [hs0]
  refine m_run 1 (ps' := (8, [some (.inr (.inl 13)), none, none, none, none, none], [.inl 9, .inl 9], mW C (S, (q, p), K, F, B, G, E), 0, 0)) rfl ?_
  refine m_icmp rfl ⟨by omega, by omega⟩ ⟨by omega, by omega⟩ (fun (zc1 : 9 = 9) => ?_) (fun (zc1 : ¬ 9 = 9) => absurd zc1 (not_not_intro (by omega)))
  refine m_run 1 (ps' := (15, [some (.inr (.inl 13)), none, none, none, none, none], [.inr (.inl 13)], mW C (S, (q, p), K, F, B, G, E), 0, 0)) rfl ?_
  refine m_callV [] [] rfl rfl ⟨_, rfl, rfl⟩ rfl rfl (d_chg hq1 hq2) (fun r_ w_ hq_ _ => ?_)
  obtain ⟨rfl, P2, rfl, hsv⟩ := hq_
  show m_Sem X 99 (18, [some (.inr (.inl 13)), none, none, none, none, none], [], mW C (S, P2, K, F, B, G, E), 0, 0) _
  refine m_run 4 (ps' := (22, [some (.inr (.inl 13)), some (.inl 0), some (.inl 0), none, none, none], [], mW C (S, P2, K, F, B, G, E), 0, 0)) rfl ?_
  refine m_weak [some (.inr (.inl 13)), some (.inl 0), some (.inl 0), none, none, none] ⟨rfl, ⟨rfl, ⟨rfl, trivial⟩⟩⟩ ?_
  have g0 : fillT twS tb (shM S) 0 0 := fun a b h1 h2 h3 h4 => by
    rw [if_neg (by omega)]; exact ((repM_C hR).2 a b h1 h2 h3 h4).1
  exact e_twO (v := twC tb) (fun a b h1 h2 h3 h4 => (hR.2.2 a b h1 h2 h3 h4).2) (fun S2 hs2 hf => ⟨rfl, P2, S2, rfl, hsv, repM_of hR.1 hs2 fun a b h1 h2 h3 h4 => by rw [hf a b h1 h2 h3 h4, if_pos (by omega)]; exact ⟨rfl, twS_in h1 h2 h3 h4⟩⟩) 0 (by omega) (by omega) S 0 hs0 g0 (by rw [Int.zero_add]; rfl)
set_option maxHeartbeats 4000000 in
set_option maxRecDepth 100000 in
theorem d_twistN {X : Nat × Nat × (Nat → Int32)} {C : CS} {n : Int} {S : Int → Int} {P K : TS} {F : Int × Int × Int} {B : (Nat → Int64) × (Nat → Int64)} {G : Int → Int} {E : Int × Int} (hn : okN n) (hs0 : S 0 = n) (hno : ¬ n = 9) : m_Run X 99 [.inr (.inl 13)] (mW C (S, P, K, F, B, G, E)) (m_V (-1000002) (mW C (S, P, K, F, B, G, E))) := by
  have hl := okN_lo hn
  show m_Sem X 99 (0, [some (.inr (.inl 13)), none, none, none, none, none], [], mW C (S, P, K, F, B, G, E), 0, 0) _
  refine m_run 3 (ps' := (5, [some (.inr (.inl 13)), none, none, none, none, none], [.inl 0, .inr (.inl 14)], mW C (S, P, K, F, B, G, E), 0, 0)) rfl ?_
  refine m_iald rfl rfl (by omega) (by omega) (by decide) ?_
  show m_Sem X 99 (6, [some (.inr (.inl 13)), none, none, none, none, none], [.inl (S 0)], mW C (S, P, K, F, B, G, E), 0, 0) _
  rw [hs0]
  refine m_run 1 (ps' := (8, [some (.inr (.inl 13)), none, none, none, none, none], [.inl 9, .inl n], mW C (S, P, K, F, B, G, E), 0, 0)) rfl ?_
  refine m_icmp rfl ⟨by omega, by omega⟩ ⟨by omega, by omega⟩ (fun (zc1 : n = 9) => absurd zc1 (by omega)) (fun (zc1 : ¬ n = 9) => ?_)
  refine m_run 1 (ps' := (13, [some (.inr (.inl 13)), none, none, none, none, none], [.inl (-1000002)], mW C (S, P, K, F, B, G, E), 0, 0)) rfl ?_
  exact m_ret1 rfl (Or.inl rfl) rfl (m_Vi rfl)
set_option maxHeartbeats 4000000 in
set_option maxRecDepth 100000 in
theorem d_prod {X : Nat × Nat × (Nat → Int32)} {C : CS} {n : Int} {S : Int → Int} {K : TS} {F : Int × Int × Int} {B : (Nat → Int64) × (Nat → Int64)} {G : Int → Int} {E : Int × Int} {q : Int} {p : Int → Int} {tb : Int → Int → Int} {a b r : Int} (ha : m_R a) (hb : m_R b) (hr : m_R r) (hR : repM n S tb) (hq1 : 0 ≤ q) (hq2 : q ≤ 4) : m_Run X 100 [.inr (.inl 13), .inl a, .inl b, .inl r] (mW C (S, (q, p), K, F, B, G, E)) (fun r9 w => if inN n a = true ∧ inN n b = true ∧ inN n r = true then r9 = some (.inl (tb a b)) ∧ ∃ P2 : TS, w = mW C (m_up S (1 + 9 * a + b) r, P2, K, F, B, G, E) ∧ svM S (q, p) P2 else r9 = some (.inl (-1000001)) ∧ w = mW C (S, (q, p), K, F, B, G, E)) := by
  have hn := hR.1
  have hl := okN_lo hn
  have hs0 := hR.2.1
  show m_Sem X 100 (0, [some (.inr (.inl 13)), some (.inl a), some (.inl b), some (.inl r), none], [], mW C (S, (q, p), K, F, B, G, E), 0, 0) _
  refine m_run 2 (ps' := (2, [some (.inr (.inl 13)), some (.inl a), some (.inl b), some (.inl r), none], [.inl a, .inr (.inl 13)], mW C (S, (q, p), K, F, B, G, E), 0, 0)) rfl ?_
  refine m_callVF [.inl a] [] rfl rfl ⟨_, rfl, rfl⟩ rfl rfl (d_el (e := a) hn hs0 ha) ?_
  show m_Sem X 100 (5, [some (.inr (.inl 13)), some (.inl a), some (.inl b), some (.inl r), none], [.inl (bI (inN n a))], mW C (S, (q, p), K, F, B, G, E), 0, 0) _
  refine m_if rfl (bI_R (inN n a)) (fun (zc1 : (bI (inN n a)) = 0) => ?_) (fun (zc1 : ¬ (bI (inN n a)) = 0) => ?_)
  · replace zc1 : (inN n a) = false := bI_e0.mp zc1
    refine m_run 1 (ps' := (26, [some (.inr (.inl 13)), some (.inl a), some (.inl b), some (.inl r), none], [.inl (-1000001)], mW C (S, (q, p), K, F, B, G, E), 0, 0)) rfl ?_
    exact m_ret1 rfl (Or.inl rfl) rfl (by rw [if_neg (by simp [*])]; exact ⟨rfl, rfl⟩)
  · replace zc1 : (inN n a) = true := bI_n0.mp zc1
    have zi1 := inN_i.mp zc1
    refine m_run 2 (ps' := (10, [some (.inr (.inl 13)), some (.inl a), some (.inl b), some (.inl r), none], [.inl b, .inr (.inl 13)], mW C (S, (q, p), K, F, B, G, E), 0, 0)) rfl ?_
    refine m_callVF [.inl b] [] rfl rfl ⟨_, rfl, rfl⟩ rfl rfl (d_el (e := b) hn hs0 hb) ?_
    show m_Sem X 100 (13, [some (.inr (.inl 13)), some (.inl a), some (.inl b), some (.inl r), none], [.inl (bI (inN n b))], mW C (S, (q, p), K, F, B, G, E), 0, 0) _
    refine m_if rfl (bI_R (inN n b)) (fun (zc2 : (bI (inN n b)) = 0) => ?_) (fun (zc2 : ¬ (bI (inN n b)) = 0) => ?_)
    · replace zc2 : (inN n b) = false := bI_e0.mp zc2
      refine m_run 1 (ps' := (26, [some (.inr (.inl 13)), some (.inl a), some (.inl b), some (.inl r), none], [.inl (-1000001)], mW C (S, (q, p), K, F, B, G, E), 0, 0)) rfl ?_
      exact m_ret1 rfl (Or.inl rfl) rfl (by rw [if_neg (by simp [*])]; exact ⟨rfl, rfl⟩)
    · replace zc2 : (inN n b) = true := bI_n0.mp zc2
      have zi2 := inN_i.mp zc2
      refine m_run 2 (ps' := (18, [some (.inr (.inl 13)), some (.inl a), some (.inl b), some (.inl r), none], [.inl r, .inr (.inl 13)], mW C (S, (q, p), K, F, B, G, E), 0, 0)) rfl ?_
      refine m_callVF [.inl r] [] rfl rfl ⟨_, rfl, rfl⟩ rfl rfl (d_el (e := r) hn hs0 hr) ?_
      show m_Sem X 100 (21, [some (.inr (.inl 13)), some (.inl a), some (.inl b), some (.inl r), none], [.inl (bI (inN n r))], mW C (S, (q, p), K, F, B, G, E), 0, 0) _
      refine m_if rfl (bI_R (inN n r)) (fun (zc3 : ¬ (bI (inN n r)) = 0) => ?_) (fun (zc3 : ¬ ¬ (bI (inN n r)) = 0) => ?_)
      · replace zc3 : (inN n r) = true := bI_n0.mp zc3
        have zi3 := inN_i.mp zc3
        refine m_run 1 (ps' := (28, [some (.inr (.inl 13)), some (.inl a), some (.inl b), some (.inl r), none], [.inr (.inl 13)], mW C (S, (q, p), K, F, B, G, E), 0, 0)) rfl ?_
        refine m_callV [] [] rfl rfl ⟨_, rfl, rfl⟩ rfl rfl (d_chg hq1 hq2) (fun r_ w_ hq_ _ => ?_)
        obtain ⟨rfl, P2, rfl, hsv⟩ := hq_
        show m_Sem X 100 (31, [some (.inr (.inl 13)), some (.inl a), some (.inl b), some (.inl r), none], [], mW C (S, P2, K, F, B, G, E), 0, 0) _
        refine m_run 3 (ps' := (34, [some (.inr (.inl 13)), some (.inl a), some (.inl b), some (.inl r), none], [.inl b, .inl a, .inr (.inl 13)], mW C (S, P2, K, F, B, G, E), 0, 0)) rfl ?_
        refine m_callVF [.inl a, .inl b] [] rfl rfl ⟨_, rfl, rfl⟩ rfl rfl (d_times (a := a) (b := b) hR (by omega) (by omega) (by omega) (by omega)) ?_
        have zt1 := (hR.2.2 a b (by omega) (by omega) (by omega) (by omega)).2
        show m_Sem X 100 (37, [some (.inr (.inl 13)), some (.inl a), some (.inl b), some (.inl r), none], [.inl (tb a b)], mW C (S, P2, K, F, B, G, E), 0, 0) _
        refine m_run 5 (ps' := (43, [some (.inr (.inl 13)), some (.inl a), some (.inl b), some (.inl r), some (.inl (tb a b))], [.inl r, .inl b, .inl a, .inr (.inl 13)], mW C (S, P2, K, F, B, G, E), 0, 0)) rfl ?_
        refine m_callVU [.inl a, .inl b, .inl r] [] rfl rfl ⟨_, rfl, rfl⟩ rfl rfl (d_set (S := S) (a := a) (b := b) (r := r) (by omega) (by omega)) ?_
        show m_Sem X 100 (46, [some (.inr (.inl 13)), some (.inl a), some (.inl b), some (.inl r), some (.inl (tb a b))], [], mW C ((m_up S (1 + 9 * a + b) r), P2, K, F, B, G, E), 0, 0) _
        refine m_run 1 (ps' := (48, [some (.inr (.inl 13)), some (.inl a), some (.inl b), some (.inl r), some (.inl (tb a b))], [.inl (tb a b)], mW C ((m_up S (1 + 9 * a + b) r), P2, K, F, B, G, E), 0, 0)) rfl ?_
        exact m_ret1 rfl (Or.inl rfl) rfl (by rw [if_pos ⟨by assumption, by assumption, by assumption⟩]; exact ⟨rfl, P2, rfl, hsv⟩)
      · replace zc3 : (inN n r) = false := bI_e0.mp (Decidable.not_not.mp zc3)
        refine m_run 1 (ps' := (26, [some (.inr (.inl 13)), some (.inl a), some (.inl b), some (.inl r), none], [.inl (-1000001)], mW C (S, (q, p), K, F, B, G, E), 0, 0)) rfl ?_
        exact m_ret1 rfl (Or.inl rfl) rfl (by rw [if_neg (by simp [*])]; exact ⟨rfl, rfl⟩)
set_option maxHeartbeats 4000000 in
set_option maxRecDepth 100000 in
theorem e_exI {X : Nat × Nat × (Nat → Int32)} {C : CS} {n : Int} {P K : TS} {F : Int × Int × Int} {B : (Nat → Int64) × (Nat → Int64)} {G : Int → Int} {E : Int × Int} {tb : Int → Int → Int} {a : Int} {Q : Option mPV → mPW → Prop} {v : Int} (hn : okN n) (htb : ∀ a b, 0 ≤ a → a < n → 0 ≤ b → b < n → 0 ≤ tb a b ∧ tb a b < n) (ha : 0 ≤ a) (ha2 : a < n) (K9 : ∀ S : Int → Int, S 0 = n → fillX n tb (shM S) (a + 1) 0 → m_Sem X 101 (8, [some (.inr (.inl 13)), some (.inl v), some (.inl (a + 1)), none, none, none], [], mW C (S, P, K, F, B, G, E), 0, 0) Q) : ∀ b : Int, 0 ≤ b → b ≤ a → ∀ (S : Int → Int) (u : Int) (hs0 : S 0 = n) (hf : fillX n tb (shM S) a b) (hu : u + sumF (fun b => if tb a b = tb b a then 0 else 2) (a - b).toNat b = v), m_Sem X 101 (20, [some (.inr (.inl 13)), some (.inl u), some (.inl a), some (.inl b), none, none], [], mW C (S, P, K, F, B, G, E), 0, 0) (Q) := by
  have hl := okN_lo hn
  refine m_down 0 a ?_ ?_
  · intro S u hs0 hf hu
    rw [sum_end] at hu
    have hu : u = v := by omega
    subst hu
    show m_Sem X 101 (20, [some (.inr (.inl 13)), some (.inl u), some (.inl a), some (.inl a), none, none], [], mW C (S, P, K, F, B, G, E), 0, 0) _
    refine m_run 2 (ps' := (22, [some (.inr (.inl 13)), some (.inl u), some (.inl a), some (.inl a), none, none], [.inl a, .inl a], mW C (S, P, K, F, B, G, E), 0, 0)) rfl ?_
    refine m_icmp rfl ⟨by omega, by omega⟩ ⟨by omega, by omega⟩ (fun (zc1 : a ≤ a) => ?_) (fun (zc1 : ¬ a ≤ a) => absurd zc1 (not_not_intro (by omega)))
    refine m_run 2 (ps' := (8, [some (.inr (.inl 13)), some (.inl u), some (.inl (a + 1)), some (.inl a), none, none], [], mW C (S, P, K, F, B, G, E), 0, 0)) rfl ?_
    refine m_weak [some (.inr (.inl 13)), some (.inl u), some (.inl (a + 1)), none, none, none] ⟨rfl, ⟨rfl, ⟨rfl, trivial⟩⟩⟩ ?_
    exact K9 S hs0 (fillX_r hf)
  · intro b hi1 hi2 ih S u hs0 hf hu
    rw [sum_step hi2] at hu
    have e1 : S (1 + 9 * a + b) = tb a b := by rw [← sh_at S a b, hf a b ha ha2 hi1 (by omega), if_neg (by omega)]
    have e2 : S (1 + 9 * b + a) = tb b a := by rw [← sh_at S b a, hf b a hi1 (by omega) ha ha2, if_neg (by omega)]
    have zt8 := htb a b ha ha2 hi1 (by omega)
    have zt9 := htb b a hi1 (by omega) ha ha2
    refine m_run 2 (ps' := (22, [some (.inr (.inl 13)), some (.inl u), some (.inl a), some (.inl b), none, none], [.inl a, .inl b], mW C (S, P, K, F, B, G, E), 0, 0)) rfl ?_
    refine m_icmp rfl ⟨by omega, by omega⟩ ⟨by omega, by omega⟩ (fun (zc1 : a ≤ b) => absurd zc1 (by omega)) (fun (zc1 : ¬ a ≤ b) => ?_)
    refine m_run 3 (ps' := (28, [some (.inr (.inl 13)), some (.inl u), some (.inl a), some (.inl b), none, none], [.inl b, .inl a, .inr (.inl 13)], mW C (S, P, K, F, B, G, E), 0, 0)) rfl ?_
    refine m_callVF [.inl a, .inl b] [] rfl rfl ⟨_, rfl, rfl⟩ rfl rfl (d_raw (S := S) (a := a) (b := b) (by omega) (by omega)) ?_
    show m_Sem X 101 (31, [some (.inr (.inl 13)), some (.inl u), some (.inl a), some (.inl b), none, none], [.inl (S (1 + 9 * a + b))], mW C (S, P, K, F, B, G, E), 0, 0) _
    refine m_run 4 (ps' := (36, [some (.inr (.inl 13)), some (.inl u), some (.inl a), some (.inl b), some (.inl (S (1 + 9 * a + b))), none], [.inl a, .inl b, .inr (.inl 13)], mW C (S, P, K, F, B, G, E), 0, 0)) rfl ?_
    refine m_callVF [.inl b, .inl a] [] rfl rfl ⟨_, rfl, rfl⟩ rfl rfl (d_raw (S := S) (a := b) (b := a) (by omega) (by omega)) ?_
    show m_Sem X 101 (39, [some (.inr (.inl 13)), some (.inl u), some (.inl a), some (.inl b), some (.inl (S (1 + 9 * a + b))), none], [.inl (S (1 + 9 * b + a))], mW C (S, P, K, F, B, G, E), 0, 0) _
    refine m_run 4 (ps' := (46, [some (.inr (.inl 13)), some (.inl u), some (.inl a), some (.inl b), some (.inl (S (1 + 9 * a + b))), some (.inl (S (1 + 9 * b + a)))], [.inl (S (1 + 9 * b + a)), .inl (S (1 + 9 * a + b)), .inl u], mW C (S, P, K, F, B, G, E), 0, 0)) rfl ?_
    refine m_icmp rfl ⟨by omega, by omega⟩ ⟨by omega, by omega⟩ (fun (zc2 : ¬ (S (1 + 9 * a + b)) = (S (1 + 9 * b + a))) => ?_) (fun (zc2 : ¬ ¬ (S (1 + 9 * a + b)) = (S (1 + 9 * b + a))) => ?_)
    · refine m_run 7 (ps' := (61, [some (.inr (.inl 13)), some (.inl (u + 2)), some (.inl a), some (.inl b), some (.inl (S (1 + 9 * a + b))), some (.inl (S (1 + 9 * b + a)))], [.inl (S (1 + 9 * b + a)), .inl b, .inl a, .inr (.inl 13)], mW C (S, P, K, F, B, G, E), 0, 0)) rfl ?_
      refine m_callVU [.inl a, .inl b, .inl (S (1 + 9 * b + a))] [] rfl rfl ⟨_, rfl, rfl⟩ rfl rfl (d_set (S := S) (a := a) (b := b) (r := (S (1 + 9 * b + a))) (by omega) (by omega)) ?_
      show m_Sem X 101 (64, [some (.inr (.inl 13)), some (.inl (u + 2)), some (.inl a), some (.inl b), some (.inl (S (1 + 9 * a + b))), some (.inl (S (1 + 9 * b + a)))], [], mW C ((m_up S (1 + 9 * a + b) (S (1 + 9 * b + a))), P, K, F, B, G, E), 0, 0) _
      refine m_run 4 (ps' := (69, [some (.inr (.inl 13)), some (.inl (u + 2)), some (.inl a), some (.inl b), some (.inl (S (1 + 9 * a + b))), some (.inl (S (1 + 9 * b + a)))], [.inl (S (1 + 9 * a + b)), .inl a, .inl b, .inr (.inl 13)], mW C ((m_up S (1 + 9 * a + b) (S (1 + 9 * b + a))), P, K, F, B, G, E), 0, 0)) rfl ?_
      refine m_callVU [.inl b, .inl a, .inl (S (1 + 9 * a + b))] [] rfl rfl ⟨_, rfl, rfl⟩ rfl rfl (d_set (S := (m_up S (1 + 9 * a + b) (S (1 + 9 * b + a)))) (a := b) (b := a) (r := (S (1 + 9 * a + b))) (by omega) (by omega)) ?_
      show m_Sem X 101 (72, [some (.inr (.inl 13)), some (.inl (u + 2)), some (.inl a), some (.inl b), some (.inl (S (1 + 9 * a + b))), some (.inl (S (1 + 9 * b + a)))], [], mW C ((m_up (m_up S (1 + 9 * a + b) (S (1 + 9 * b + a))) (1 + 9 * b + a) (S (1 + 9 * a + b))), P, K, F, B, G, E), 0, 0) _
      refine m_run 2 (ps' := (20, [some (.inr (.inl 13)), some (.inl (u + 2)), some (.inl a), some (.inl (b + 1)), some (.inl (S (1 + 9 * a + b))), some (.inl (S (1 + 9 * b + a)))], [], mW C ((m_up (m_up S (1 + 9 * a + b) (S (1 + 9 * b + a))) (1 + 9 * b + a) (S (1 + 9 * a + b))), P, K, F, B, G, E), 0, 0)) rfl ?_
      refine m_weak [some (.inr (.inl 13)), some (.inl (u + 2)), some (.inl a), some (.inl (b + 1)), none, none] ⟨rfl, ⟨rfl, ⟨rfl, ⟨rfl, trivial⟩⟩⟩⟩ ?_
      rw [e1, e2]
      refine ih _ _ (by rw [sh_0 _ _ hi1 ha, sh_0 _ _ ha hi1]; exact hs0) (by rw [sh_up, sh_up]; exact fillX_s hf (by omega) hi1 hi2 ha2) ?_
      rw [← hu]
      rw [e1, e2] at zc2
      rw [if_neg zc2]
      omega
    · replace zc2 : (S (1 + 9 * a + b)) = (S (1 + 9 * b + a)) := Decidable.not_not.mp zc2
      refine m_run 8 (ps' := (61, [some (.inr (.inl 13)), some (.inl (u + 0)), some (.inl a), some (.inl b), some (.inl (S (1 + 9 * a + b))), some (.inl (S (1 + 9 * b + a)))], [.inl (S (1 + 9 * b + a)), .inl b, .inl a, .inr (.inl 13)], mW C (S, P, K, F, B, G, E), 0, 0)) rfl ?_
      refine m_callVU [.inl a, .inl b, .inl (S (1 + 9 * b + a))] [] rfl rfl ⟨_, rfl, rfl⟩ rfl rfl (d_set (S := S) (a := a) (b := b) (r := (S (1 + 9 * b + a))) (by omega) (by omega)) ?_
      show m_Sem X 101 (64, [some (.inr (.inl 13)), some (.inl (u + 0)), some (.inl a), some (.inl b), some (.inl (S (1 + 9 * a + b))), some (.inl (S (1 + 9 * b + a)))], [], mW C ((m_up S (1 + 9 * a + b) (S (1 + 9 * b + a))), P, K, F, B, G, E), 0, 0) _
      refine m_run 4 (ps' := (69, [some (.inr (.inl 13)), some (.inl (u + 0)), some (.inl a), some (.inl b), some (.inl (S (1 + 9 * a + b))), some (.inl (S (1 + 9 * b + a)))], [.inl (S (1 + 9 * a + b)), .inl a, .inl b, .inr (.inl 13)], mW C ((m_up S (1 + 9 * a + b) (S (1 + 9 * b + a))), P, K, F, B, G, E), 0, 0)) rfl ?_
      refine m_callVU [.inl b, .inl a, .inl (S (1 + 9 * a + b))] [] rfl rfl ⟨_, rfl, rfl⟩ rfl rfl (d_set (S := (m_up S (1 + 9 * a + b) (S (1 + 9 * b + a)))) (a := b) (b := a) (r := (S (1 + 9 * a + b))) (by omega) (by omega)) ?_
      show m_Sem X 101 (72, [some (.inr (.inl 13)), some (.inl (u + 0)), some (.inl a), some (.inl b), some (.inl (S (1 + 9 * a + b))), some (.inl (S (1 + 9 * b + a)))], [], mW C ((m_up (m_up S (1 + 9 * a + b) (S (1 + 9 * b + a))) (1 + 9 * b + a) (S (1 + 9 * a + b))), P, K, F, B, G, E), 0, 0) _
      refine m_run 2 (ps' := (20, [some (.inr (.inl 13)), some (.inl (u + 0)), some (.inl a), some (.inl (b + 1)), some (.inl (S (1 + 9 * a + b))), some (.inl (S (1 + 9 * b + a)))], [], mW C ((m_up (m_up S (1 + 9 * a + b) (S (1 + 9 * b + a))) (1 + 9 * b + a) (S (1 + 9 * a + b))), P, K, F, B, G, E), 0, 0)) rfl ?_
      refine m_weak [some (.inr (.inl 13)), some (.inl (u + 0)), some (.inl a), some (.inl (b + 1)), none, none] ⟨rfl, ⟨rfl, ⟨rfl, ⟨rfl, trivial⟩⟩⟩⟩ ?_
      rw [e1, e2]
      refine ih _ _ (by rw [sh_0 _ _ hi1 ha, sh_0 _ _ ha hi1]; exact hs0) (by rw [sh_up, sh_up]; exact fillX_s hf (by omega) hi1 hi2 ha2) ?_
      rw [← hu]
      rw [e1, e2] at zc2
      rw [if_pos zc2]
      omega
set_option maxHeartbeats 4000000 in
set_option maxRecDepth 100000 in
theorem e_exO {X : Nat × Nat × (Nat → Int32)} {C : CS} {n : Int} {P K : TS} {F : Int × Int × Int} {B : (Nat → Int64) × (Nat → Int64)} {G : Int → Int} {E : Int × Int} {tb : Int → Int → Int} {Q : Option mPV → mPW → Prop} {v : Int} (hn : okN n) (htb : ∀ a b, 0 ≤ a → a < n → 0 ≤ b → b < n → 0 ≤ tb a b ∧ tb a b < n) (K9 : ∀ S : Int → Int, S 0 = n → fillX n tb (shM S) n 0 → Q (some (.inl v)) (mW C (S, P, K, F, B, G, E))) : ∀ a : Int, 0 ≤ a → a ≤ n → ∀ (S : Int → Int) (u : Int) (hs0 : S 0 = n) (hf : fillX n tb (shM S) a 0) (hu : u + sumF (exR tb) (n - a).toNat a = v), m_Sem X 101 (8, [some (.inr (.inl 13)), some (.inl u), some (.inl a), none, none, none], [], mW C (S, P, K, F, B, G, E), 0, 0) (Q) := by
  have hl := okN_lo hn
  refine m_down 0 n ?_ ?_
  · intro S u hs0 hf hu
    rw [sum_end] at hu
    have hu : u = v := by omega
    subst hu
    show m_Sem X 101 (8, [some (.inr (.inl 13)), some (.inl u), some (.inl n), none, none, none], [], mW C (S, P, K, F, B, G, E), 0, 0) _
    refine m_run 4 (ps' := (14, [some (.inr (.inl 13)), some (.inl u), some (.inl n), none, none, none], [.inl 0, .inr (.inl 14), .inl n], mW C (S, P, K, F, B, G, E), 0, 0)) rfl ?_
    refine m_iald rfl rfl (by omega) (by omega) (by decide) ?_
    show m_Sem X 101 (15, [some (.inr (.inl 13)), some (.inl u), some (.inl n), none, none, none], [.inl (S 0), .inl n], mW C (S, P, K, F, B, G, E), 0, 0) _
    rw [hs0]
    refine m_icmp rfl ⟨by omega, by omega⟩ ⟨by omega, by omega⟩ (fun (zc1 : n ≤ n) => ?_) (fun (zc1 : ¬ n ≤ n) => absurd zc1 (not_not_intro (by omega)))
    refine m_run 1 (ps' := (85, [some (.inr (.inl 13)), some (.inl u), some (.inl n), none, none, none], [.inl u], mW C (S, P, K, F, B, G, E), 0, 0)) rfl ?_
    exact m_ret1 rfl (Or.inl rfl) rfl (K9 S hs0 hf)
  · intro a hi1 hi2 ih S u hs0 hf hu
    rw [sum_step hi2] at hu
    refine m_run 4 (ps' := (14, [some (.inr (.inl 13)), some (.inl u), some (.inl a), none, none, none], [.inl 0, .inr (.inl 14), .inl a], mW C (S, P, K, F, B, G, E), 0, 0)) rfl ?_
    refine m_iald rfl rfl (by omega) (by omega) (by decide) ?_
    show m_Sem X 101 (15, [some (.inr (.inl 13)), some (.inl u), some (.inl a), none, none, none], [.inl (S 0), .inl a], mW C (S, P, K, F, B, G, E), 0, 0) _
    rw [hs0]
    refine m_icmp rfl ⟨by omega, by omega⟩ ⟨by omega, by omega⟩ (fun (zc1 : n ≤ a) => absurd zc1 (by omega)) (fun (zc1 : ¬ n ≤ a) => ?_)
    refine m_run 2 (ps' := (20, [some (.inr (.inl 13)), some (.inl u), some (.inl a), some (.inl 0), none, none], [], mW C (S, P, K, F, B, G, E), 0, 0)) rfl ?_
    refine m_weak [some (.inr (.inl 13)), some (.inl u), some (.inl a), some (.inl 0), none, none] ⟨rfl, ⟨rfl, ⟨rfl, ⟨rfl, trivial⟩⟩⟩⟩ ?_
    exact e_exI (v := u + exR tb a) hn htb hi1 hi2 (fun S2 hs2 hf2 => ih S2 _ hs2 hf2 (by rw [← hu]; omega)) 0 (by omega) (by omega) S u hs0 hf (by rw [Int.sub_zero]; rfl)
set_option maxHeartbeats 4000000 in
set_option maxRecDepth 100000 in
theorem d_exch {X : Nat × Nat × (Nat → Int32)} {C : CS} {n : Int} {S : Int → Int} {K : TS} {F : Int × Int × Int} {B : (Nat → Int64) × (Nat → Int64)} {G : Int → Int} {E : Int × Int} {q : Int} {p : Int → Int} {tb : Int → Int → Int} (hR : repM n S tb) (hq1 : 0 ≤ q) (hq2 : q ≤ 4) : m_Run X 101 [.inr (.inl 13)] (mW C (S, (q, p), K, F, B, G, E)) (fun r w => r = some (.inl (exC n tb)) ∧ ∃ (P2 : TS) (S3 : Int → Int), w = mW C (S3, P2, K, F, B, G, E) ∧ svM S (q, p) P2 ∧ repM n S3 (fun a b => tb b a)) := by
  have hn := hR.1
  have hl := okN_lo hn
  have hs0 := hR.2.1
  show m_Sem X 101 (0, [some (.inr (.inl 13)), none, none, none, none, none], [], mW C (S, (q, p), K, F, B, G, E), 0, 0) _
  refine m_run 1 (ps' := (1, [some (.inr (.inl 13)), none, none, none, none, none], [.inr (.inl 13)], mW C (S, (q, p), K, F, B, G, E), 0, 0)) rfl ?_
  refine m_callV [] [] rfl rfl ⟨_, rfl, rfl⟩ rfl rfl (d_chg hq1 hq2) (fun r_ w_ hq_ _ => ?_)
  obtain ⟨rfl, P2, rfl, hsv⟩ := hq_
  show m_Sem X 101 (4, [some (.inr (.inl 13)), none, none, none, none, none], [], mW C (S, P2, K, F, B, G, E), 0, 0) _
  refine m_run 4 (ps' := (8, [some (.inr (.inl 13)), some (.inl 0), some (.inl 0), none, none, none], [], mW C (S, P2, K, F, B, G, E), 0, 0)) rfl ?_
  refine m_weak [some (.inr (.inl 13)), some (.inl 0), some (.inl 0), none, none, none] ⟨rfl, ⟨rfl, ⟨rfl, trivial⟩⟩⟩ ?_
  have g0 : fillX n tb (shM S) 0 0 := fun a b h1 h2 h3 h4 => by
    rw [((repM_C hR).2 a b h1 h2 h3 h4).1, if_neg (by omega)]
  exact e_exO (v := exC n tb) hn (fun a b h1 h2 h3 h4 => (hR.2.2 a b h1 h2 h3 h4).2) (fun S2 hs2 hf => ⟨rfl, P2, S2, rfl, hsv, repM_of hn hs2 fun a b h1 h2 h3 h4 => by rw [hf a b h1 h2 h3 h4, if_pos (by omega)]; exact ⟨rfl, (hR.2.2 b a h3 h4 h1 h2).2⟩⟩) 0 (by omega) (by omega) S 0 hs0 g0 (by rw [Int.zero_add, z_sub]; rfl)
set_option maxHeartbeats 4000000 in
set_option maxRecDepth 100000 in
theorem e_by3 {X : Nat × Nat × (Nat → Int32)} {C : CS} {n : Int} {S : Int → Int} {P K : TS} {F : Int × Int × Int} {B : (Nat → Int64) × (Nat → Int64)} {G : Int → Int} {E : Int × Int} {tb : Int → Int → Int} {a b : Int} (hR : repM n S tb) (ha : 0 ≤ a) (ha2 : a < n) (hb : 0 ≤ b) (hb2 : b < n) : ∀ iv : Int, 0 ≤ iv → iv ≤ n → m_Sem X 102 (70, [some (.inr (.inl 13)), some (.inl a), some (.inl b), some (.inl 3), some (.inl iv)], [], mW C (S, P, K, F, B, G, E), 0, 0) (m_V (onfS (fstF (fun i => decide (sideS tb true a i = b)) (n - iv).toNat iv)) (mW C (S, P, K, F, B, G, E))) := by
  have hn := hR.1
  have hl := okN_lo hn
  have hs0 := hR.2.1
  refine m_down 0 n ?_ ?_
  · show m_Sem X 102 (70, [some (.inr (.inl 13)), some (.inl a), some (.inl b), some (.inl 3), some (.inl n)], [], mW C (S, P, K, F, B, G, E), 0, 0) _
    refine m_run 4 (ps' := (77, [some (.inr (.inl 13)), some (.inl a), some (.inl b), some (.inl 3), some (.inl n)], [.inl 0, .inr (.inl 14), .inl n], mW C (S, P, K, F, B, G, E), 0, 0)) rfl ?_
    refine m_iald rfl rfl (by omega) (by omega) (by decide) ?_
    show m_Sem X 102 (78, [some (.inr (.inl 13)), some (.inl a), some (.inl b), some (.inl 3), some (.inl n)], [.inl (S 0), .inl n], mW C (S, P, K, F, B, G, E), 0, 0) _
    rw [hs0]
    refine m_icmp rfl ⟨by omega, by omega⟩ ⟨by omega, by omega⟩ (fun (zc1 : n ≤ n) => ?_) (fun (zc1 : ¬ n ≤ n) => absurd zc1 (not_not_intro (by omega)))
    refine m_run 1 (ps' := (118, [some (.inr (.inl 13)), some (.inl a), some (.inl b), some (.inl 3), some (.inl n)], [.inl (-1000004)], mW C (S, P, K, F, B, G, E), 0, 0)) rfl ?_
    exact m_ret1 rfl (Or.inl rfl) rfl (m_Vi (by rw [fst_end]; rfl))
  · intro iv hi1 hi2 ih 
    refine m_run 4 (ps' := (77, [some (.inr (.inl 13)), some (.inl a), some (.inl b), some (.inl 3), some (.inl iv)], [.inl 0, .inr (.inl 14), .inl iv], mW C (S, P, K, F, B, G, E), 0, 0)) rfl ?_
    refine m_iald rfl rfl (by omega) (by omega) (by decide) ?_
    show m_Sem X 102 (78, [some (.inr (.inl 13)), some (.inl a), some (.inl b), some (.inl 3), some (.inl iv)], [.inl (S 0), .inl iv], mW C (S, P, K, F, B, G, E), 0, 0) _
    rw [hs0]
    refine m_icmp rfl ⟨by omega, by omega⟩ ⟨by omega, by omega⟩ (fun (zc1 : n ≤ iv) => absurd zc1 (by omega)) (fun (zc1 : ¬ n ≤ iv) => ?_)
    refine m_run 2 (ps' := (83, [some (.inr (.inl 13)), some (.inl a), some (.inl b), some (.inl 3), some (.inl iv)], [.inl 3, .inl 3], mW C (S, P, K, F, B, G, E), 0, 0)) rfl ?_
    refine m_icmp rfl ⟨by omega, by omega⟩ ⟨by omega, by omega⟩ (fun (zc2 : ¬ 3 = 3) => absurd zc2 (by omega)) (fun (zc2 : ¬ ¬ 3 = 3) => ?_)
    refine m_run 3 (ps' := (90, [some (.inr (.inl 13)), some (.inl a), some (.inl b), some (.inl 3), some (.inl iv)], [.inl iv, .inl a, .inr (.inl 13)], mW C (S, P, K, F, B, G, E), 0, 0)) rfl ?_
    refine m_callVF [.inl a, .inl iv] [] rfl rfl ⟨_, rfl, rfl⟩ rfl rfl (d_times (a := a) (b := iv) hR (by omega) (by omega) (by omega) (by omega)) ?_
    have zt1 := (hR.2.2 a iv (by omega) (by omega) (by omega) (by omega)).2
    show m_Sem X 102 (93, [some (.inr (.inl 13)), some (.inl a), some (.inl b), some (.inl 3), some (.inl iv)], [.inl (tb a iv)], mW C (S, P, K, F, B, G, E), 0, 0) _
    refine m_run 2 (ps' := (104, [some (.inr (.inl 13)), some (.inl a), some (.inl b), some (.inl 3), some (.inl iv)], [.inl b, .inl (tb a iv)], mW C (S, P, K, F, B, G, E), 0, 0)) rfl ?_
    refine m_icmp rfl ⟨by omega, by omega⟩ ⟨by omega, by omega⟩ (fun (zc3 : ¬ (tb a iv) = b) => ?_) (fun (zc3 : ¬ ¬ (tb a iv) = b) => ?_)
    · refine m_run 2 (ps' := (70, [some (.inr (.inl 13)), some (.inl a), some (.inl b), some (.inl 3), some (.inl (iv + 1))], [], mW C (S, P, K, F, B, G, E), 0, 0)) rfl ?_
      refine m_weak [some (.inr (.inl 13)), some (.inl a), some (.inl b), some (.inl 3), some (.inl (iv + 1))] ⟨rfl, ⟨rfl, ⟨rfl, ⟨rfl, ⟨rfl, trivial⟩⟩⟩⟩⟩ ?_
      rw [fst_f hi2 (decide_eq_false zc3)]
      exact ih
    · replace zc3 : (tb a iv) = b := Decidable.not_not.mp zc3
      refine m_run 1 (ps' := (109, [some (.inr (.inl 13)), some (.inl a), some (.inl b), some (.inl 3), some (.inl iv)], [.inl iv], mW C (S, P, K, F, B, G, E), 0, 0)) rfl ?_
      exact m_ret1 rfl (Or.inl rfl) rfl (m_Vi (by rw [fst_t hi2 (decide_eq_true zc3)]; unfold onfS; rw [if_neg (by omega)]))
set_option maxHeartbeats 4000000 in
set_option maxRecDepth 100000 in
theorem e_by4 {X : Nat × Nat × (Nat → Int32)} {C : CS} {n : Int} {S : Int → Int} {P K : TS} {F : Int × Int × Int} {B : (Nat → Int64) × (Nat → Int64)} {G : Int → Int} {E : Int × Int} {tb : Int → Int → Int} {a b : Int} (hR : repM n S tb) (ha : 0 ≤ a) (ha2 : a < n) (hb : 0 ≤ b) (hb2 : b < n) : ∀ iv : Int, 0 ≤ iv → iv ≤ n → m_Sem X 102 (70, [some (.inr (.inl 13)), some (.inl a), some (.inl b), some (.inl 4), some (.inl iv)], [], mW C (S, P, K, F, B, G, E), 0, 0) (m_V (onfS (fstF (fun i => decide (sideS tb false a i = b)) (n - iv).toNat iv)) (mW C (S, P, K, F, B, G, E))) := by
  have hn := hR.1
  have hl := okN_lo hn
  have hs0 := hR.2.1
  refine m_down 0 n ?_ ?_
  · show m_Sem X 102 (70, [some (.inr (.inl 13)), some (.inl a), some (.inl b), some (.inl 4), some (.inl n)], [], mW C (S, P, K, F, B, G, E), 0, 0) _
    refine m_run 4 (ps' := (77, [some (.inr (.inl 13)), some (.inl a), some (.inl b), some (.inl 4), some (.inl n)], [.inl 0, .inr (.inl 14), .inl n], mW C (S, P, K, F, B, G, E), 0, 0)) rfl ?_
    refine m_iald rfl rfl (by omega) (by omega) (by decide) ?_
    show m_Sem X 102 (78, [some (.inr (.inl 13)), some (.inl a), some (.inl b), some (.inl 4), some (.inl n)], [.inl (S 0), .inl n], mW C (S, P, K, F, B, G, E), 0, 0) _
    rw [hs0]
    refine m_icmp rfl ⟨by omega, by omega⟩ ⟨by omega, by omega⟩ (fun (zc1 : n ≤ n) => ?_) (fun (zc1 : ¬ n ≤ n) => absurd zc1 (not_not_intro (by omega)))
    refine m_run 1 (ps' := (118, [some (.inr (.inl 13)), some (.inl a), some (.inl b), some (.inl 4), some (.inl n)], [.inl (-1000004)], mW C (S, P, K, F, B, G, E), 0, 0)) rfl ?_
    exact m_ret1 rfl (Or.inl rfl) rfl (m_Vi (by rw [fst_end]; rfl))
  · intro iv hi1 hi2 ih 
    refine m_run 4 (ps' := (77, [some (.inr (.inl 13)), some (.inl a), some (.inl b), some (.inl 4), some (.inl iv)], [.inl 0, .inr (.inl 14), .inl iv], mW C (S, P, K, F, B, G, E), 0, 0)) rfl ?_
    refine m_iald rfl rfl (by omega) (by omega) (by decide) ?_
    show m_Sem X 102 (78, [some (.inr (.inl 13)), some (.inl a), some (.inl b), some (.inl 4), some (.inl iv)], [.inl (S 0), .inl iv], mW C (S, P, K, F, B, G, E), 0, 0) _
    rw [hs0]
    refine m_icmp rfl ⟨by omega, by omega⟩ ⟨by omega, by omega⟩ (fun (zc1 : n ≤ iv) => absurd zc1 (by omega)) (fun (zc1 : ¬ n ≤ iv) => ?_)
    refine m_run 2 (ps' := (83, [some (.inr (.inl 13)), some (.inl a), some (.inl b), some (.inl 4), some (.inl iv)], [.inl 3, .inl 4], mW C (S, P, K, F, B, G, E), 0, 0)) rfl ?_
    refine m_icmp rfl ⟨by omega, by omega⟩ ⟨by omega, by omega⟩ (fun (zc2 : ¬ 4 = 3) => ?_) (fun (zc2 : ¬ ¬ 4 = 3) => absurd zc2 (not_not_intro (by omega)))
    refine m_run 3 (ps' := (100, [some (.inr (.inl 13)), some (.inl a), some (.inl b), some (.inl 4), some (.inl iv)], [.inl a, .inl iv, .inr (.inl 13)], mW C (S, P, K, F, B, G, E), 0, 0)) rfl ?_
    refine m_callVF [.inl iv, .inl a] [] rfl rfl ⟨_, rfl, rfl⟩ rfl rfl (d_times (a := iv) (b := a) hR (by omega) (by omega) (by omega) (by omega)) ?_
    have zt1 := (hR.2.2 iv a (by omega) (by omega) (by omega) (by omega)).2
    show m_Sem X 102 (103, [some (.inr (.inl 13)), some (.inl a), some (.inl b), some (.inl 4), some (.inl iv)], [.inl (tb iv a)], mW C (S, P, K, F, B, G, E), 0, 0) _
    refine m_run 1 (ps' := (104, [some (.inr (.inl 13)), some (.inl a), some (.inl b), some (.inl 4), some (.inl iv)], [.inl b, .inl (tb iv a)], mW C (S, P, K, F, B, G, E), 0, 0)) rfl ?_
    refine m_icmp rfl ⟨by omega, by omega⟩ ⟨by omega, by omega⟩ (fun (zc3 : ¬ (tb iv a) = b) => ?_) (fun (zc3 : ¬ ¬ (tb iv a) = b) => ?_)
    · refine m_run 2 (ps' := (70, [some (.inr (.inl 13)), some (.inl a), some (.inl b), some (.inl 4), some (.inl (iv + 1))], [], mW C (S, P, K, F, B, G, E), 0, 0)) rfl ?_
      refine m_weak [some (.inr (.inl 13)), some (.inl a), some (.inl b), some (.inl 4), some (.inl (iv + 1))] ⟨rfl, ⟨rfl, ⟨rfl, ⟨rfl, ⟨rfl, trivial⟩⟩⟩⟩⟩ ?_
      rw [fst_f hi2 (decide_eq_false zc3)]
      exact ih
    · replace zc3 : (tb iv a) = b := Decidable.not_not.mp zc3
      refine m_run 1 (ps' := (109, [some (.inr (.inl 13)), some (.inl a), some (.inl b), some (.inl 4), some (.inl iv)], [.inl iv], mW C (S, P, K, F, B, G, E), 0, 0)) rfl ?_
      exact m_ret1 rfl (Or.inl rfl) rfl (m_Vi (by rw [fst_t hi2 (decide_eq_true zc3)]; unfold onfS; rw [if_neg (by omega)]))
set_option maxHeartbeats 4000000 in
set_option maxRecDepth 100000 in
theorem d_by {X : Nat × Nat × (Nat → Int32)} {C : CS} {n : Int} {S : Int → Int} {P K : TS} {F : Int × Int × Int} {B : (Nat → Int64) × (Nat → Int64)} {G : Int → Int} {E : Int × Int} {tb : Int → Int → Int} {a b wh : Int} (ha : m_R a) (hb : m_R b) (hw : m_R wh) (hR : repM n S tb) : m_Run X 102 [.inr (.inl 13), .inl a, .inl b, .inl wh] (mW C (S, P, K, F, B, G, E)) (m_V (byS n tb a b wh) (mW C (S, P, K, F, B, G, E))) := by
  have hn := hR.1
  have hl := okN_lo hn
  have hs0 := hR.2.1
  show m_Sem X 102 (0, [some (.inr (.inl 13)), some (.inl a), some (.inl b), some (.inl wh), none], [], mW C (S, P, K, F, B, G, E), 0, 0) _
  refine m_run 2 (ps' := (2, [some (.inr (.inl 13)), some (.inl a), some (.inl b), some (.inl wh), none], [.inl a, .inr (.inl 13)], mW C (S, P, K, F, B, G, E), 0, 0)) rfl ?_
  refine m_callVF [.inl a] [] rfl rfl ⟨_, rfl, rfl⟩ rfl rfl (d_el (e := a) hn hs0 ha) ?_
  show m_Sem X 102 (5, [some (.inr (.inl 13)), some (.inl a), some (.inl b), some (.inl wh), none], [.inl (bI (inN n a))], mW C (S, P, K, F, B, G, E), 0, 0) _
  refine m_if rfl (bI_R _) (fun (zc1 : (bI (inN n a)) = 0) => ?_) (fun (zc1 : ¬ (bI (inN n a)) = 0) => ?_)
  · replace zc1 : (inN n a) = false := bI_e0.mp zc1
    refine m_run 1 (ps' := (27, [some (.inr (.inl 13)), some (.inl a), some (.inl b), some (.inl wh), none], [.inl (-1000001)], mW C (S, P, K, F, B, G, E), 0, 0)) rfl ?_
    exact m_ret1 rfl (Or.inl rfl) rfl (m_Vi (by unfold byS; (repeat' split) <;> first | rfl | (exfalso; omega) | omega | simp_all))
  · replace zc1 : (inN n a) = true := bI_n0.mp zc1
    have zi1 := inN_i.mp zc1
    refine m_run 2 (ps' := (10, [some (.inr (.inl 13)), some (.inl a), some (.inl b), some (.inl wh), none], [.inl b, .inr (.inl 13)], mW C (S, P, K, F, B, G, E), 0, 0)) rfl ?_
    refine m_callVF [.inl b] [] rfl rfl ⟨_, rfl, rfl⟩ rfl rfl (d_el (e := b) hn hs0 hb) ?_
    show m_Sem X 102 (13, [some (.inr (.inl 13)), some (.inl a), some (.inl b), some (.inl wh), none], [.inl (bI (inN n b))], mW C (S, P, K, F, B, G, E), 0, 0) _
    refine m_if rfl (bI_R _) (fun (zc2 : (bI (inN n b)) = 0) => ?_) (fun (zc2 : ¬ (bI (inN n b)) = 0) => ?_)
    · replace zc2 : (inN n b) = false := bI_e0.mp zc2
      refine m_run 1 (ps' := (27, [some (.inr (.inl 13)), some (.inl a), some (.inl b), some (.inl wh), none], [.inl (-1000001)], mW C (S, P, K, F, B, G, E), 0, 0)) rfl ?_
      exact m_ret1 rfl (Or.inl rfl) rfl (m_Vi (by unfold byS; (repeat' split) <;> first | rfl | (exfalso; omega) | omega | simp_all))
    · replace zc2 : (inN n b) = true := bI_n0.mp zc2
      have zi2 := inN_i.mp zc2
      refine m_run 3 (ps' := (19, [some (.inr (.inl 13)), some (.inl a), some (.inl b), some (.inl wh), none], [.inl 4, .inl 0, .inl wh], mW C (S, P, K, F, B, G, E), 0, 0)) rfl ?_
      refine m_callSF [.inl wh, .inl 0, .inl 4] [] rfl rfl rfl (d_in (v := wh) (l := 0) (m := 4) hw ⟨by omega, by omega⟩ ⟨by omega, by omega⟩) ?_
      show m_Sem X 102 (22, [some (.inr (.inl 13)), some (.inl a), some (.inl b), some (.inl wh), none], [.inl (bI (insS wh 0 4))], mW C (S, P, K, F, B, G, E), 0, 0) _
      refine m_if rfl (bI_R _) (fun (zc3 : ¬ (bI (insS wh 0 4)) = 0) => ?_) (fun (zc3 : ¬ ¬ (bI (insS wh 0 4)) = 0) => ?_)
      · replace zc3 : (insS wh 0 4) = true := bI_n0.mp zc3
        have zi9 := insS_i.mp zc3
        refine m_run 2 (ps' := (30, [some (.inr (.inl 13)), some (.inl a), some (.inl b), some (.inl wh), none], [.inl 3, .inl wh], mW C (S, P, K, F, B, G, E), 0, 0)) rfl ?_
        refine m_icmp rfl hw ⟨by omega, by omega⟩ (fun (zc4 : 3 ≤ wh) => ?_) (fun (zc4 : ¬ 3 ≤ wh) => ?_)
        · refine m_run 2 (ps' := (70, [some (.inr (.inl 13)), some (.inl a), some (.inl b), some (.inl wh), some (.inl 0)], [], mW C (S, P, K, F, B, G, E), 0, 0)) rfl ?_
          rcases (show wh = 3 ∨ wh = 4 by omega) with rfl | rfl
          · have h9 := e_by3 (X := X) (C := C) (P := P) (K := K) (F := F) (B := B) (G := G) (E := E) (a := a) (b := b) hR (by omega) (by omega) (by omega) (by omega) 0 (by omega) (by omega)
            rw [z_sub] at h9
            refine m_cons h9 (fun r w hq => ?_)
            obtain ⟨rfl, rfl⟩ := hq
            exact m_Vi (by unfold byS facS; simp [*])
          · have h9 := e_by4 (X := X) (C := C) (P := P) (K := K) (F := F) (B := B) (G := G) (E := E) (a := a) (b := b) hR (by omega) (by omega) (by omega) (by omega) 0 (by omega) (by omega)
            rw [z_sub] at h9
            refine m_cons h9 (fun r w hq => ?_)
            obtain ⟨rfl, rfl⟩ := hq
            exact m_Vi (by unfold byS facS; simp [*])
        · refine m_run 1 (ps' := (34, [some (.inr (.inl 13)), some (.inl a), some (.inl b), some (.inl wh), none], [.inl wh], mW C (S, P, K, F, B, G, E), 0, 0)) rfl ?_
          refine m_if rfl hw (fun (zc5 : ¬ wh = 0) => ?_) (fun (zc5 : ¬ ¬ wh = 0) => ?_)
          · refine m_run 2 (ps' := (48, [some (.inr (.inl 13)), some (.inl a), some (.inl b), some (.inl wh), none], [.inl 1, .inl wh], mW C (S, P, K, F, B, G, E), 0, 0)) rfl ?_
            refine m_icmp rfl hw ⟨by omega, by omega⟩ (fun (zc6 : ¬ wh = 1) => ?_) (fun (zc6 : ¬ ¬ wh = 1) => ?_)
            · refine m_run 3 (ps' := (63, [some (.inr (.inl 13)), some (.inl a), some (.inl b), some (.inl wh), none], [.inl b, .inl a, .inr (.inl 13)], mW C (S, P, K, F, B, G, E), 0, 0)) rfl ?_
              refine m_callVF [.inl a, .inl b] [] rfl rfl ⟨_, rfl, rfl⟩ rfl rfl (d_times (a := a) (b := b) hR (by omega) (by omega) (by omega) (by omega)) ?_
              have zt1 := (hR.2.2 a b (by omega) (by omega) (by omega) (by omega)).2
              show m_Sem X 102 (66, [some (.inr (.inl 13)), some (.inl a), some (.inl b), some (.inl wh), none], [.inl (tb a b)], mW C (S, P, K, F, B, G, E), 0, 0) _
              exact m_ret1 rfl (Or.inl rfl) rfl (m_Vi (by unfold byS; (repeat' split) <;> first | rfl | (exfalso; omega) | omega | simp_all))
            · replace zc6 : wh = 1 := Decidable.not_not.mp zc6
              refine m_run 3 (ps' := (54, [some (.inr (.inl 13)), some (.inl a), some (.inl b), some (.inl wh), none], [.inl b, .inl a, .inr (.inl 13)], mW C (S, P, K, F, B, G, E), 0, 0)) rfl ?_
              refine m_callVF [.inl a, .inl b] [] rfl rfl ⟨_, rfl, rfl⟩ rfl rfl (d_less (a := a) (b := b) hn hs0 (by omega) (by omega) (by omega) (by omega)) ?_
              have zt1 := difS_in (n := n) (a := a) (b := b) hn (by omega) (by omega) (by omega) (by omega)
              show m_Sem X 102 (57, [some (.inr (.inl 13)), some (.inl a), some (.inl b), some (.inl wh), none], [.inl (difS n a b)], mW C (S, P, K, F, B, G, E), 0, 0) _
              refine m_run 1 (ps' := (66, [some (.inr (.inl 13)), some (.inl a), some (.inl b), some (.inl wh), none], [.inl (difS n a b)], mW C (S, P, K, F, B, G, E), 0, 0)) rfl ?_
              exact m_ret1 rfl (Or.inl rfl) rfl (m_Vi (by unfold byS; (repeat' split) <;> first | rfl | (exfalso; omega) | omega | simp_all))
          · replace zc5 : wh = 0 := Decidable.not_not.mp zc5
            refine m_run 3 (ps' := (40, [some (.inr (.inl 13)), some (.inl a), some (.inl b), some (.inl wh), none], [.inl b, .inl a, .inr (.inl 13)], mW C (S, P, K, F, B, G, E), 0, 0)) rfl ?_
            refine m_callVF [.inl a, .inl b] [] rfl rfl ⟨_, rfl, rfl⟩ rfl rfl (d_sum (a := a) (b := b) hn hs0 (by omega) (by omega) (by omega) (by omega)) ?_
            have zt1 := sumS_in (n := n) (a := a) (b := b) hn (by omega) (by omega) (by omega) (by omega)
            show m_Sem X 102 (43, [some (.inr (.inl 13)), some (.inl a), some (.inl b), some (.inl wh), none], [.inl (sumS n a b)], mW C (S, P, K, F, B, G, E), 0, 0) _
            refine m_run 1 (ps' := (66, [some (.inr (.inl 13)), some (.inl a), some (.inl b), some (.inl wh), none], [.inl (sumS n a b)], mW C (S, P, K, F, B, G, E), 0, 0)) rfl ?_
            exact m_ret1 rfl (Or.inl rfl) rfl (m_Vi (by unfold byS; (repeat' split) <;> first | rfl | (exfalso; omega) | omega | simp_all))
      · replace zc3 : (insS wh 0 4) = false := bI_e0.mp (Decidable.not_not.mp zc3)
        have zi9 := insS_f.mp zc3
        refine m_run 1 (ps' := (27, [some (.inr (.inl 13)), some (.inl a), some (.inl b), some (.inl wh), none], [.inl (-1000001)], mW C (S, P, K, F, B, G, E), 0, 0)) rfl ?_
        exact m_ret1 rfl (Or.inl rfl) rfl (m_Vi (by unfold byS; (repeat' split) <;> first | rfl | (exfalso; omega) | omega | simp_all))
