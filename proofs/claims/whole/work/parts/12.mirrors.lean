def rgS (f : Int → Int) (p : Int) : Int := if p < 0 then -1 else if 91 ≤ p then -1 else f p
theorem rgS_at {f : Int → Int} {p : Int} (h1 : 0 ≤ p) (h2 : p < 91) : rgS f p = f p := by unfold rgS; rw [if_neg (by omega), if_neg (by omega)]
def rayS (n : Int) (tb : Int → Int → Int) (ax ce p : Int) : Int := if p = ce then -1 else if onC n tb p ax = true then -1 else lnC n tb ce p
theorem rayS_in {n : Int} {tb : Int → Int → Int} {ax ce p : Int} : rayS n tb ax ce p = -1 ∨ (0 ≤ rayS n tb ax ce p ∧ rayS n tb ax ce p < NP n) := by
  unfold rayS
  split
  · exact Or.inl rfl
  · split
    · exact Or.inl rfl
    · exact lnC_in
def loS (n : Int) (ry : Int → Int) (lo : Int) : Int := fstF (fun p => decide (ry p ≠ -1) && decide (ry p ≠ lo)) (NP n).toNat 0
theorem fst_in {p : Int → Bool} : ∀ (k : Nat) (i : Int), fstF p k i = -1 ∨ (i ≤ fstF p k i ∧ fstF p k i < i + k ∧ p (fstF p k i) = true)
  | 0, _ => Or.inl rfl
  | k + 1, i => by
    unfold fstF
    cases h : p i with
    | true => exact Or.inr ⟨Int.le_refl _, by show i < _; omega, h⟩
    | false =>
      rcases fst_in (p := p) k (i + 1) with h1 | ⟨h1, h2, h3⟩
      · exact Or.inl h1
      · exact Or.inr ⟨by show i ≤ fstF p k (i + 1); omega, by show fstF p k (i + 1) < _; omega, h3⟩
theorem loS_in {n lo : Int} {ry : Int → Int} (hn : okN n) : loS n ry lo = -1 ∨ (0 ≤ loS n ry lo ∧ loS n ry lo < NP n) := by
  have hl := okN_lo hn
  have hq := sq_b hn
  rcases fst_in (p := fun p => decide (ry p ≠ -1) && decide (ry p ≠ lo)) (NP n).toNat 0 with h | ⟨h1, h2, -⟩
  · exact Or.inl h
  · refine Or.inr ⟨h1, ?_⟩
    unfold loS
    unfold NP at h2 ⊢
    omega
def rayOk (n : Int) (ry : Int → Int) : Prop := ∀ p, 0 ≤ p → p < NP n → ry p = -1 ∨ (0 ≤ ry p ∧ ry p < NP n)
set_option maxHeartbeats 4000000 in
set_option maxRecDepth 100000 in
theorem k_ray {X : Nat × Nat × (Nat → Int32)} {n : Int} {T : Int → Int} {h : HS} {t : TS} {ry ft im : Int → Int} {en br hl : Int} {M : MS} {p : Int} (hp : m_R p) : m_Run X 17 [.inr (.inl 9), .inl p] (mW (n, T, h, t, (ry, ft, im, en, br, hl)) M) (m_V (rgS ry p) (mW (n, T, h, t, (ry, ft, im, en, br, hl)) M)) := by
  show m_Sem X 17 (0, [some (.inr (.inl 9)), some (.inl p)], [], mW (n, T, h, t, (ry, ft, im, en, br, hl)) M, 0, 0) _
  refine m_run 1 (ps' := (1, [some (.inr (.inl 9)), some (.inl p)], [.inl p], mW (n, T, h, t, (ry, ft, im, en, br, hl)) M, 0, 0)) rfl ?_
  refine m_if rfl hp (fun (zc1 : p < 0) => ?_) (fun (zc1 : ¬ p < 0) => ?_)
  · refine m_run 1 (ps' := (23, [some (.inr (.inl 9)), some (.inl p)], [.inl (-1)], mW (n, T, h, t, (ry, ft, im, en, br, hl)) M, 0, 0)) rfl ?_
    exact m_ret1 rfl (Or.inl rfl) rfl (m_Vi (by unfold rgS; (repeat' split) <;> first | rfl | (exfalso; omega) | omega | simp_all))
  · refine m_run 4 (ps' := (10, [some (.inr (.inl 9)), some (.inl p)], [.inl 91, .inl p], mW (n, T, h, t, (ry, ft, im, en, br, hl)) M, 0, 0)) rfl ?_
    refine m_icmp rfl hp ⟨by omega, by omega⟩ (fun (zc2 : 91 ≤ p) => ?_) (fun (zc2 : ¬ 91 ≤ p) => ?_)
    · refine m_run 1 (ps' := (23, [some (.inr (.inl 9)), some (.inl p)], [.inl (-1)], mW (n, T, h, t, (ry, ft, im, en, br, hl)) M, 0, 0)) rfl ?_
      exact m_ret1 rfl (Or.inl rfl) rfl (m_Vi (by unfold rgS; (repeat' split) <;> first | rfl | (exfalso; omega) | omega | simp_all))
    · refine m_run 3 (ps' := (18, [some (.inr (.inl 9)), some (.inl p)], [.inl p, .inr (.inl 10)], mW (n, T, h, t, (ry, ft, im, en, br, hl)) M, 0, 0)) rfl ?_
      refine m_iald rfl rfl (by omega) (by omega) (by decide) ?_
      refine m_run 1 (ps' := (23, [some (.inr (.inl 9)), some (.inl p)], [.inl (ry p)], mW (n, T, h, t, (ry, ft, im, en, br, hl)) M, 0, 0)) rfl ?_
      exact m_ret1 rfl (Or.inl rfl) rfl (m_Vi (by unfold rgS; (repeat' split) <;> first | rfl | (exfalso; omega) | omega | simp_all))
set_option maxHeartbeats 4000000 in
set_option maxRecDepth 100000 in
theorem k_img {X : Nat × Nat × (Nat → Int32)} {n : Int} {T : Int → Int} {h : HS} {t : TS} {ry ft im : Int → Int} {en br hl : Int} {M : MS} {p : Int} (hp : m_R p) : m_Run X 18 [.inr (.inl 9), .inl p] (mW (n, T, h, t, (ry, ft, im, en, br, hl)) M) (m_V (rgS im p) (mW (n, T, h, t, (ry, ft, im, en, br, hl)) M)) := by
  show m_Sem X 18 (0, [some (.inr (.inl 9)), some (.inl p)], [], mW (n, T, h, t, (ry, ft, im, en, br, hl)) M, 0, 0) _
  refine m_run 1 (ps' := (1, [some (.inr (.inl 9)), some (.inl p)], [.inl p], mW (n, T, h, t, (ry, ft, im, en, br, hl)) M, 0, 0)) rfl ?_
  refine m_if rfl hp (fun (zc1 : p < 0) => ?_) (fun (zc1 : ¬ p < 0) => ?_)
  · refine m_run 1 (ps' := (23, [some (.inr (.inl 9)), some (.inl p)], [.inl (-1)], mW (n, T, h, t, (ry, ft, im, en, br, hl)) M, 0, 0)) rfl ?_
    exact m_ret1 rfl (Or.inl rfl) rfl (m_Vi (by unfold rgS; (repeat' split) <;> first | rfl | (exfalso; omega) | omega | simp_all))
  · refine m_run 4 (ps' := (10, [some (.inr (.inl 9)), some (.inl p)], [.inl 91, .inl p], mW (n, T, h, t, (ry, ft, im, en, br, hl)) M, 0, 0)) rfl ?_
    refine m_icmp rfl hp ⟨by omega, by omega⟩ (fun (zc2 : 91 ≤ p) => ?_) (fun (zc2 : ¬ 91 ≤ p) => ?_)
    · refine m_run 1 (ps' := (23, [some (.inr (.inl 9)), some (.inl p)], [.inl (-1)], mW (n, T, h, t, (ry, ft, im, en, br, hl)) M, 0, 0)) rfl ?_
      exact m_ret1 rfl (Or.inl rfl) rfl (m_Vi (by unfold rgS; (repeat' split) <;> first | rfl | (exfalso; omega) | omega | simp_all))
    · refine m_run 3 (ps' := (18, [some (.inr (.inl 9)), some (.inl p)], [.inl p, .inr (.inl 12)], mW (n, T, h, t, (ry, ft, im, en, br, hl)) M, 0, 0)) rfl ?_
      refine m_iald rfl rfl (by omega) (by omega) (by decide) ?_
      refine m_run 1 (ps' := (23, [some (.inr (.inl 9)), some (.inl p)], [.inl (im p)], mW (n, T, h, t, (ry, ft, im, en, br, hl)) M, 0, 0)) rfl ?_
      exact m_ret1 rfl (Or.inl rfl) rfl (m_Vi (by unfold rgS; (repeat' split) <;> first | rfl | (exfalso; omega) | omega | simp_all))
set_option maxHeartbeats 4000000 in
set_option maxRecDepth 100000 in
theorem l_lo {X : Nat × Nat × (Nat → Int32)} {n : Int} {T : Int → Int} {h : HS} {t : TS} {ry ft im : Int → Int} {br hl : Int} {M : MS} {tb : Int → Int → Int} {lo : Int} (hR : repC n T tb) (hlo : m_R lo) (hry : rayOk n ry) : ∀ iv : Int, 0 ≤ iv → iv ≤ (NP n) → m_Sem X 16 (2, [some (.inr (.inl 9)), some (.inl lo), some (.inl iv)], [], mW (n, T, h, t, (ry, ft, im, (NP n), br, hl)) M, 0, 0) (m_V (fstF (fun p => decide (ry p ≠ -1) && decide (ry p ≠ lo)) (NP n - iv).toNat iv) (mW (n, T, h, t, (ry, ft, im, (NP n), br, hl)) M)) := by
  have hn := hR.1
  have hln := okN_lo hn
  have hq := sq_b hn
  have hnp : NP n = n * n + n + 1 := rfl
  refine m_down 0 (NP n) ?_ ?_
  · show m_Sem X 16 (2, [some (.inr (.inl 9)), some (.inl lo), some (.inl (NP n))], [], mW (n, T, h, t, (ry, ft, im, (NP n), br, hl)) M, 0, 0) _
    refine m_run 3 (ps' := (7, [some (.inr (.inl 9)), some (.inl lo), some (.inl (NP n))], [.inl (NP n), .inl (NP n)], mW (n, T, h, t, (ry, ft, im, (NP n), br, hl)) M, 0, 0)) rfl ?_
    refine m_icmp rfl ⟨by omega, by omega⟩ ⟨by omega, by omega⟩ (fun (zc1 : (NP n) ≤ (NP n)) => ?_) (fun (zc1 : ¬ (NP n) ≤ (NP n)) => absurd zc1 (not_not_intro (by omega)))
    refine m_run 1 (ps' := (43, [some (.inr (.inl 9)), some (.inl lo), some (.inl (NP n))], [.inl (-1)], mW (n, T, h, t, (ry, ft, im, (NP n), br, hl)) M, 0, 0)) rfl ?_
    exact m_ret1 rfl (Or.inl rfl) rfl (m_Vi (fst_end _ _).symm)
  · intro iv hi1 hi2 ih 
    have hr0 := hry iv hi1 hi2
    have hrg : rgS ry iv = ry iv := rgS_at hi1 (by omega)
    refine m_run 3 (ps' := (7, [some (.inr (.inl 9)), some (.inl lo), some (.inl iv)], [.inl (NP n), .inl iv], mW (n, T, h, t, (ry, ft, im, (NP n), br, hl)) M, 0, 0)) rfl ?_
    refine m_icmp rfl ⟨by omega, by omega⟩ ⟨by omega, by omega⟩ (fun (zc1 : (NP n) ≤ iv) => absurd zc1 (by omega)) (fun (zc1 : ¬ (NP n) ≤ iv) => ?_)
    refine m_run 2 (ps' := (13, [some (.inr (.inl 9)), some (.inl lo), some (.inl iv)], [.inl 91, .inl iv], mW (n, T, h, t, (ry, ft, im, (NP n), br, hl)) M, 0, 0)) rfl ?_
    refine m_icmp rfl ⟨by omega, by omega⟩ ⟨by omega, by omega⟩ (fun (zc2 : 91 ≤ iv) => absurd zc2 (by omega)) (fun (zc2 : ¬ 91 ≤ iv) => ?_)
    refine m_run 2 (ps' := (18, [some (.inr (.inl 9)), some (.inl lo), some (.inl iv)], [.inl iv, .inr (.inl 9)], mW (n, T, h, t, (ry, ft, im, (NP n), br, hl)) M, 0, 0)) rfl ?_
    refine m_callVF [.inl iv] [] rfl rfl ⟨_, rfl, rfl⟩ rfl rfl (k_ray (p := iv) ⟨by omega, by omega⟩) ?_
    show m_Sem X 16 (21, [some (.inr (.inl 9)), some (.inl lo), some (.inl iv)], [.inl (rgS ry iv)], mW (n, T, h, t, (ry, ft, im, (NP n), br, hl)) M, 0, 0) _
    refine m_run 1 (ps' := (22, [some (.inr (.inl 9)), some (.inl lo), some (.inl iv)], [.inl (-1), .inl (rgS ry iv)], mW (n, T, h, t, (ry, ft, im, (NP n), br, hl)) M, 0, 0)) rfl ?_
    refine m_icmp rfl ⟨by omega, by omega⟩ ⟨by omega, by omega⟩ (fun (zc3 : (rgS ry iv) = (-1)) => ?_) (fun (zc3 : ¬ (rgS ry iv) = (-1)) => ?_)
    · refine m_run 2 (ps' := (2, [some (.inr (.inl 9)), some (.inl lo), some (.inl (iv + 1))], [], mW (n, T, h, t, (ry, ft, im, (NP n), br, hl)) M, 0, 0)) rfl ?_
      refine m_weak [some (.inr (.inl 9)), some (.inl lo), some (.inl (iv + 1))] ⟨rfl, ⟨rfl, ⟨rfl, trivial⟩⟩⟩ ?_
      rw [hrg] at zc3
      try rw [hrg] at zc4
      rw [fst_f hi2 (by simp [*])]
      exact ih
    · refine m_run 2 (ps' := (27, [some (.inr (.inl 9)), some (.inl lo), some (.inl iv)], [.inl iv, .inr (.inl 9)], mW (n, T, h, t, (ry, ft, im, (NP n), br, hl)) M, 0, 0)) rfl ?_
      refine m_callVF [.inl iv] [] rfl rfl ⟨_, rfl, rfl⟩ rfl rfl (k_ray (p := iv) ⟨by omega, by omega⟩) ?_
      show m_Sem X 16 (30, [some (.inr (.inl 9)), some (.inl lo), some (.inl iv)], [.inl (rgS ry iv)], mW (n, T, h, t, (ry, ft, im, (NP n), br, hl)) M, 0, 0) _
      refine m_run 1 (ps' := (31, [some (.inr (.inl 9)), some (.inl lo), some (.inl iv)], [.inl lo, .inl (rgS ry iv)], mW (n, T, h, t, (ry, ft, im, (NP n), br, hl)) M, 0, 0)) rfl ?_
      refine m_icmp rfl ⟨by omega, by omega⟩ hlo (fun (zc4 : (rgS ry iv) = lo) => ?_) (fun (zc4 : ¬ (rgS ry iv) = lo) => ?_)
      · refine m_run 2 (ps' := (2, [some (.inr (.inl 9)), some (.inl lo), some (.inl (iv + 1))], [], mW (n, T, h, t, (ry, ft, im, (NP n), br, hl)) M, 0, 0)) rfl ?_
        refine m_weak [some (.inr (.inl 9)), some (.inl lo), some (.inl (iv + 1))] ⟨rfl, ⟨rfl, ⟨rfl, trivial⟩⟩⟩ ?_
        rw [hrg] at zc3
        try rw [hrg] at zc4
        rw [fst_f hi2 (by simp [*])]
        exact ih
      · refine m_run 1 (ps' := (35, [some (.inr (.inl 9)), some (.inl lo), some (.inl iv)], [.inl iv], mW (n, T, h, t, (ry, ft, im, (NP n), br, hl)) M, 0, 0)) rfl ?_
        exact m_ret1 rfl (Or.inl rfl) rfl (m_Vi (fst_t hi2 (by rw [hrg] at zc3 zc4; rw [decide_eq_true zc3, decide_eq_true zc4]; rfl)).symm)
set_option maxHeartbeats 4000000 in
set_option maxRecDepth 100000 in
theorem k_lo {X : Nat × Nat × (Nat → Int32)} {n : Int} {T : Int → Int} {h : HS} {t : TS} {ry ft im : Int → Int} {br hl : Int} {M : MS} {tb : Int → Int → Int} {lo : Int} (hR : repC n T tb) (hlo : m_R lo) (hry : rayOk n ry) : m_Run X 16 [.inr (.inl 9), .inl lo] (mW (n, T, h, t, (ry, ft, im, (NP n), br, hl)) M) (m_V (loS n ry lo) (mW (n, T, h, t, (ry, ft, im, (NP n), br, hl)) M)) := by
  have hn := hR.1
  have hln := okN_lo hn
  have hq := sq_b hn
  have hnp : NP n = n * n + n + 1 := rfl
  show m_Sem X 16 (0, [some (.inr (.inl 9)), some (.inl lo), none], [], mW (n, T, h, t, (ry, ft, im, (NP n), br, hl)) M, 0, 0) _
  refine m_run 2 (ps' := (2, [some (.inr (.inl 9)), some (.inl lo), some (.inl 0)], [], mW (n, T, h, t, (ry, ft, im, (NP n), br, hl)) M, 0, 0)) rfl ?_
  refine m_weak [some (.inr (.inl 9)), some (.inl lo), some (.inl 0)] ⟨rfl, ⟨rfl, ⟨rfl, trivial⟩⟩⟩ ?_
  have h0 := l_lo (X := X) (h := h) (t := t) (ft := ft) (im := im) (br := br) (hl := hl) (M := M) hR hlo hry 0 (by omega) (by omega)
  rw [z_sub] at h0
  exact h0
set_option maxHeartbeats 4000000 in
set_option maxRecDepth 100000 in
theorem l_lr {X : Nat × Nat × (Nat → Int32)} {n : Int} {T : Int → Int} {h : HS} {t : TS} {ft : Int → Int} {br hl : Int} {M : MS} {tb : Int → Int → Int} {ax ce : Int} (hR : repC n T tb) (hax : m_R ax) (hce : m_R ce) : ∀ iv : Int, 0 ≤ iv → iv ≤ (NP n) → ∀ (ry : Int → Int) (im : Int → Int) (hf : ∀ p, 0 ≤ p → p < iv → ry p = rayS n tb ax ce p ∧ im p = p), m_Sem X 14 (11, [some (.inr (.inl 9)), some (.inr (.inl 1)), some (.inl ax), some (.inl ce), some (.inl iv), none], [], mW (n, T, h, t, (ry, ft, im, (NP n), br, hl)) M, 0, 0) (fun r w => r = none ∧ ∃ ry2 im2, w = mW (n, T, h, t, (ry2, ft, im2, NP n, br, hl)) M ∧ ∀ p, 0 ≤ p → p < NP n → ry2 p = rayS n tb ax ce p ∧ im2 p = p) := by
  have hn := hR.1
  have hln := okN_lo hn
  have hq := sq_b hn
  have hnp : NP n = n * n + n + 1 := rfl
  refine m_down 0 (NP n) ?_ ?_
  · intro ry im hf
    show m_Sem X 14 (11, [some (.inr (.inl 9)), some (.inr (.inl 1)), some (.inl ax), some (.inl ce), some (.inl (NP n)), none], [], mW (n, T, h, t, (ry, ft, im, (NP n), br, hl)) M, 0, 0) _
    refine m_run 3 (ps' := (17, [some (.inr (.inl 9)), some (.inr (.inl 1)), some (.inl ax), some (.inl ce), some (.inl (NP n)), none], [.inl (NP n), .inl (NP n)], mW (n, T, h, t, (ry, ft, im, (NP n), br, hl)) M, 0, 0)) rfl ?_
    refine m_icmp rfl ⟨by omega, by omega⟩ ⟨by omega, by omega⟩ (fun (zc1 : (NP n) ≤ (NP n)) => ?_) (fun (zc1 : ¬ (NP n) ≤ (NP n)) => absurd zc1 (not_not_intro (by omega)))
    exact m_ret0 rfl rfl rfl (⟨rfl, ry, im, rfl, hf⟩)
  · intro iv hi1 hi2 ih ry im hf
    refine m_run 3 (ps' := (17, [some (.inr (.inl 9)), some (.inr (.inl 1)), some (.inl ax), some (.inl ce), some (.inl iv), none], [.inl (NP n), .inl iv], mW (n, T, h, t, (ry, ft, im, (NP n), br, hl)) M, 0, 0)) rfl ?_
    refine m_icmp rfl ⟨by omega, by omega⟩ ⟨by omega, by omega⟩ (fun (zc1 : (NP n) ≤ iv) => absurd zc1 (by omega)) (fun (zc1 : ¬ (NP n) ≤ iv) => ?_)
    refine m_run 2 (ps' := (24, [some (.inr (.inl 9)), some (.inr (.inl 1)), some (.inl ax), some (.inl ce), some (.inl iv), none], [.inl 91, .inl iv], mW (n, T, h, t, (ry, ft, im, (NP n), br, hl)) M, 0, 0)) rfl ?_
    refine m_icmp rfl ⟨by omega, by omega⟩ ⟨by omega, by omega⟩ (fun (zc2 : 91 ≤ iv) => absurd zc2 (by omega)) (fun (zc2 : ¬ 91 ≤ iv) => ?_)
    refine m_run 2 (ps' := (30, [some (.inr (.inl 9)), some (.inr (.inl 1)), some (.inl ax), some (.inl ce), some (.inl iv), none], [.inl ce, .inl iv], mW (n, T, h, t, (ry, ft, im, (NP n), br, hl)) M, 0, 0)) rfl ?_
    refine m_icmp rfl ⟨by omega, by omega⟩ hce (fun (zc3 : iv = ce) => ?_) (fun (zc3 : ¬ iv = ce) => ?_)
    · refine m_run 6 (ps' := (58, [some (.inr (.inl 9)), some (.inr (.inl 1)), some (.inl ax), some (.inl ce), some (.inl iv), some (.inl 0)], [.inl 0, .inl iv, .inr (.inl 10)], mW (n, T, h, t, (ry, ft, im, (NP n), br, hl)) M, 0, 0)) rfl ?_
      refine m_if rfl ⟨by omega, by omega⟩ (fun (zc4 : 0 = 0) => ?_) (fun (zc4 : ¬ 0 = 0) => absurd zc4 (not_not_intro (by omega)))
      refine m_run 1 (ps' := (72, [some (.inr (.inl 9)), some (.inr (.inl 1)), some (.inl ax), some (.inl ce), some (.inl iv), some (.inl 0)], [.inl (-1), .inl iv, .inr (.inl 10)], mW (n, T, h, t, (ry, ft, im, (NP n), br, hl)) M, 0, 0)) rfl ?_
      refine m_iast rfl rfl (by omega) (by omega) (by decide) ?_
      show m_Sem X 14 (73, [some (.inr (.inl 9)), some (.inr (.inl 1)), some (.inl ax), some (.inl ce), some (.inl iv), some (.inl 0)], [], mW (n, T, h, t, ((m_up ry iv (-1)), ft, im, (NP n), br, hl)) M, 0, 0) _
      refine m_run 4 (ps' := (81, [some (.inr (.inl 9)), some (.inr (.inl 1)), some (.inl ax), some (.inl ce), some (.inl iv), some (.inl 0)], [.inl iv, .inl iv, .inr (.inl 12)], mW (n, T, h, t, ((m_up ry iv (-1)), ft, im, (NP n), br, hl)) M, 0, 0)) rfl ?_
      refine m_iast rfl rfl (by omega) (by omega) (by decide) ?_
      show m_Sem X 14 (82, [some (.inr (.inl 9)), some (.inr (.inl 1)), some (.inl ax), some (.inl ce), some (.inl iv), some (.inl 0)], [], mW (n, T, h, t, ((m_up ry iv (-1)), ft, (m_up im iv iv), (NP n), br, hl)) M, 0, 0) _
      refine m_run 2 (ps' := (11, [some (.inr (.inl 9)), some (.inr (.inl 1)), some (.inl ax), some (.inl ce), some (.inl (iv + 1)), some (.inl 0)], [], mW (n, T, h, t, ((m_up ry iv (-1)), ft, (m_up im iv iv), (NP n), br, hl)) M, 0, 0)) rfl ?_
      refine m_weak [some (.inr (.inl 9)), some (.inr (.inl 1)), some (.inl ax), some (.inl ce), some (.inl (iv + 1)), none] ⟨rfl, ⟨rfl, ⟨rfl, ⟨rfl, ⟨rfl, trivial⟩⟩⟩⟩⟩ ?_
      refine ih _ _ (fun p h1 h2 => ?_)
      by_cases hpi : p = iv
      · subst hpi
        rw [m_up_s, m_up_s]
        exact ⟨by unfold rayS; simp [*], rfl⟩
      · rw [m_up_n _ _ hpi, m_up_n _ _ hpi]
        exact hf p h1 (by omega)
    · refine m_run 3 (ps' := (37, [some (.inr (.inl 9)), some (.inr (.inl 1)), some (.inl ax), some (.inl ce), some (.inl iv), none], [.inl ax, .inl iv, .inr (.inl 1)], mW (n, T, h, t, (ry, ft, im, (NP n), br, hl)) M, 0, 0)) rfl ?_
      refine m_callVF [.inl iv, .inl ax] [] rfl rfl ⟨_, rfl, rfl⟩ rfl rfl (k_on (p := iv) (l := ax) hR ⟨by omega, by omega⟩ hax) ?_
      show m_Sem X 14 (40, [some (.inr (.inl 9)), some (.inr (.inl 1)), some (.inl ax), some (.inl ce), some (.inl iv), none], [.inl (bI (onC n tb iv ax))], mW (n, T, h, t, (ry, ft, im, (NP n), br, hl)) M, 0, 0) _
      refine m_if rfl (bI_R _) (fun (zc4 : ¬ (bI (onC n tb iv ax)) = 0) => ?_) (fun (zc4 : ¬ ¬ (bI (onC n tb iv ax)) = 0) => ?_)
      · replace zc4 : (onC n tb iv ax) = true := bI_n0.mp zc4
        refine m_run 6 (ps' := (58, [some (.inr (.inl 9)), some (.inr (.inl 1)), some (.inl ax), some (.inl ce), some (.inl iv), some (.inl 0)], [.inl 0, .inl iv, .inr (.inl 10)], mW (n, T, h, t, (ry, ft, im, (NP n), br, hl)) M, 0, 0)) rfl ?_
        refine m_if rfl ⟨by omega, by omega⟩ (fun (zc5 : 0 = 0) => ?_) (fun (zc5 : ¬ 0 = 0) => absurd zc5 (not_not_intro (by omega)))
        refine m_run 1 (ps' := (72, [some (.inr (.inl 9)), some (.inr (.inl 1)), some (.inl ax), some (.inl ce), some (.inl iv), some (.inl 0)], [.inl (-1), .inl iv, .inr (.inl 10)], mW (n, T, h, t, (ry, ft, im, (NP n), br, hl)) M, 0, 0)) rfl ?_
        refine m_iast rfl rfl (by omega) (by omega) (by decide) ?_
        show m_Sem X 14 (73, [some (.inr (.inl 9)), some (.inr (.inl 1)), some (.inl ax), some (.inl ce), some (.inl iv), some (.inl 0)], [], mW (n, T, h, t, ((m_up ry iv (-1)), ft, im, (NP n), br, hl)) M, 0, 0) _
        refine m_run 4 (ps' := (81, [some (.inr (.inl 9)), some (.inr (.inl 1)), some (.inl ax), some (.inl ce), some (.inl iv), some (.inl 0)], [.inl iv, .inl iv, .inr (.inl 12)], mW (n, T, h, t, ((m_up ry iv (-1)), ft, im, (NP n), br, hl)) M, 0, 0)) rfl ?_
        refine m_iast rfl rfl (by omega) (by omega) (by decide) ?_
        show m_Sem X 14 (82, [some (.inr (.inl 9)), some (.inr (.inl 1)), some (.inl ax), some (.inl ce), some (.inl iv), some (.inl 0)], [], mW (n, T, h, t, ((m_up ry iv (-1)), ft, (m_up im iv iv), (NP n), br, hl)) M, 0, 0) _
        refine m_run 2 (ps' := (11, [some (.inr (.inl 9)), some (.inr (.inl 1)), some (.inl ax), some (.inl ce), some (.inl (iv + 1)), some (.inl 0)], [], mW (n, T, h, t, ((m_up ry iv (-1)), ft, (m_up im iv iv), (NP n), br, hl)) M, 0, 0)) rfl ?_
        refine m_weak [some (.inr (.inl 9)), some (.inr (.inl 1)), some (.inl ax), some (.inl ce), some (.inl (iv + 1)), none] ⟨rfl, ⟨rfl, ⟨rfl, ⟨rfl, ⟨rfl, trivial⟩⟩⟩⟩⟩ ?_
        refine ih _ _ (fun p h1 h2 => ?_)
        by_cases hpi : p = iv
        · subst hpi
          rw [m_up_s, m_up_s]
          exact ⟨by unfold rayS; simp [*], rfl⟩
        · rw [m_up_n _ _ hpi, m_up_n _ _ hpi]
          exact hf p h1 (by omega)
      · replace zc4 : (onC n tb iv ax) = false := bI_e0.mp (Decidable.not_not.mp zc4)
        refine m_run 7 (ps' := (58, [some (.inr (.inl 9)), some (.inr (.inl 1)), some (.inl ax), some (.inl ce), some (.inl iv), some (.inl 1)], [.inl 1, .inl iv, .inr (.inl 10)], mW (n, T, h, t, (ry, ft, im, (NP n), br, hl)) M, 0, 0)) rfl ?_
        refine m_if rfl ⟨by omega, by omega⟩ (fun (zc5 : 1 = 0) => absurd zc5 (by omega)) (fun (zc5 : ¬ 1 = 0) => ?_)
        refine m_run 3 (ps' := (65, [some (.inr (.inl 9)), some (.inr (.inl 1)), some (.inl ax), some (.inl ce), some (.inl iv), some (.inl 1)], [.inl iv, .inl ce, .inr (.inl 1), .inl iv, .inr (.inl 10)], mW (n, T, h, t, (ry, ft, im, (NP n), br, hl)) M, 0, 0)) rfl ?_
        refine m_callVF [.inl ce, .inl iv] [.inl iv, .inr (.inl 10)] rfl rfl ⟨_, rfl, rfl⟩ rfl rfl (k_ln (p := ce) (q := iv) hR hce ⟨by omega, by omega⟩) ?_
        have zt1 := lnC_in (n := n) (tb := tb) (p := ce) (q := iv)
        unfold NP at zt1
        show m_Sem X 14 (68, [some (.inr (.inl 9)), some (.inr (.inl 1)), some (.inl ax), some (.inl ce), some (.inl iv), some (.inl 1)], [.inl (lnC n tb ce iv), .inl iv, .inr (.inl 10)], mW (n, T, h, t, (ry, ft, im, (NP n), br, hl)) M, 0, 0) _
        refine m_run 1 (ps' := (72, [some (.inr (.inl 9)), some (.inr (.inl 1)), some (.inl ax), some (.inl ce), some (.inl iv), some (.inl 1)], [.inl (lnC n tb ce iv), .inl iv, .inr (.inl 10)], mW (n, T, h, t, (ry, ft, im, (NP n), br, hl)) M, 0, 0)) rfl ?_
        refine m_iast rfl rfl (by omega) (by omega) (by decide) ?_
        show m_Sem X 14 (73, [some (.inr (.inl 9)), some (.inr (.inl 1)), some (.inl ax), some (.inl ce), some (.inl iv), some (.inl 1)], [], mW (n, T, h, t, ((m_up ry iv (lnC n tb ce iv)), ft, im, (NP n), br, hl)) M, 0, 0) _
        refine m_run 4 (ps' := (81, [some (.inr (.inl 9)), some (.inr (.inl 1)), some (.inl ax), some (.inl ce), some (.inl iv), some (.inl 1)], [.inl iv, .inl iv, .inr (.inl 12)], mW (n, T, h, t, ((m_up ry iv (lnC n tb ce iv)), ft, im, (NP n), br, hl)) M, 0, 0)) rfl ?_
        refine m_iast rfl rfl (by omega) (by omega) (by decide) ?_
        show m_Sem X 14 (82, [some (.inr (.inl 9)), some (.inr (.inl 1)), some (.inl ax), some (.inl ce), some (.inl iv), some (.inl 1)], [], mW (n, T, h, t, ((m_up ry iv (lnC n tb ce iv)), ft, (m_up im iv iv), (NP n), br, hl)) M, 0, 0) _
        refine m_run 2 (ps' := (11, [some (.inr (.inl 9)), some (.inr (.inl 1)), some (.inl ax), some (.inl ce), some (.inl (iv + 1)), some (.inl 1)], [], mW (n, T, h, t, ((m_up ry iv (lnC n tb ce iv)), ft, (m_up im iv iv), (NP n), br, hl)) M, 0, 0)) rfl ?_
        refine m_weak [some (.inr (.inl 9)), some (.inr (.inl 1)), some (.inl ax), some (.inl ce), some (.inl (iv + 1)), none] ⟨rfl, ⟨rfl, ⟨rfl, ⟨rfl, ⟨rfl, trivial⟩⟩⟩⟩⟩ ?_
        refine ih _ _ (fun p h1 h2 => ?_)
        by_cases hpi : p = iv
        · subst hpi
          rw [m_up_s, m_up_s]
          exact ⟨by unfold rayS; simp [*], rfl⟩
        · rw [m_up_n _ _ hpi, m_up_n _ _ hpi]
          exact hf p h1 (by omega)
set_option maxHeartbeats 4000000 in
set_option maxRecDepth 100000 in
theorem k_lr {X : Nat × Nat × (Nat → Int32)} {n : Int} {T : Int → Int} {h : HS} {t : TS} {ry ft im : Int → Int} {en br hl : Int} {M : MS} {tb : Int → Int → Int} {ax ce : Int} (hR : repC n T tb) (hax : m_R ax) (hce : m_R ce) : m_Run X 14 [.inr (.inl 9), .inr (.inl 1), .inl ax, .inl ce] (mW (n, T, h, t, (ry, ft, im, en, br, hl)) M) (fun r w => r = none ∧ ∃ ry2 im2, w = mW (n, T, h, t, (ry2, ft, im2, NP n, br, hl)) M ∧ ∀ p, 0 ≤ p → p < NP n → ry2 p = rayS n tb ax ce p ∧ im2 p = p) := by
  have hn := hR.1
  have hln := okN_lo hn
  have hq := sq_b hn
  have hnp : NP n = n * n + n + 1 := rfl
  show m_Sem X 14 (0, [some (.inr (.inl 9)), some (.inr (.inl 1)), some (.inl ax), some (.inl ce), none, none], [], mW (n, T, h, t, (ry, ft, im, en, br, hl)) M, 0, 0) _
  refine m_run 2 (ps' := (2, [some (.inr (.inl 9)), some (.inr (.inl 1)), some (.inl ax), some (.inl ce), none, none], [.inr (.inl 1), .inr (.inl 9)], mW (n, T, h, t, (ry, ft, im, en, br, hl)) M, 0, 0)) rfl ?_
  refine m_callVF [] [.inr (.inl 9)] rfl rfl ⟨_, rfl, rfl⟩ rfl rfl (k_pts hR) ?_
  have zt1 : NP n = n * n + n + 1 := rfl
  show m_Sem X 14 (5, [some (.inr (.inl 9)), some (.inr (.inl 1)), some (.inl ax), some (.inl ce), none, none], [.inl (NP n), .inr (.inl 9)], mW (n, T, h, t, (ry, ft, im, en, br, hl)) M, 0, 0) _
  refine m_run 3 (ps' := (11, [some (.inr (.inl 9)), some (.inr (.inl 1)), some (.inl ax), some (.inl ce), some (.inl 0), none], [], mW (n, T, h, t, (ry, ft, im, (NP n), br, hl)) M, 0, 0)) rfl ?_
  refine m_weak [some (.inr (.inl 9)), some (.inr (.inl 1)), some (.inl ax), some (.inl ce), some (.inl 0), none] ⟨rfl, ⟨rfl, ⟨rfl, ⟨rfl, ⟨rfl, trivial⟩⟩⟩⟩⟩ ?_
  exact l_lr hR hax hce 0 (by omega) (by omega) ry im (fun p h1 h2 => absurd h2 (by omega))
def footX (n : Int) (tb : Int → Int → Int) (ry : Int → Int) (ax ba br hl p : Int) : Int := if ry p = -1 then -1 else mtC n tb (lnC n tb (if ry p = br then hl else ba) p) ax
set_option maxHeartbeats 4000000 in
set_option maxRecDepth 100000 in
theorem l_lf {X : Nat × Nat × (Nat → Int32)} {n : Int} {T : Int → Int} {h : HS} {t : TS} {ry im : Int → Int} {br hl : Int} {M : MS} {tb : Int → Int → Int} {ax ba : Int} (hR : repC n T tb) (hax : m_R ax) (hba : ba = -1 ∨ (0 ≤ ba ∧ ba < NP n)) (hbr : br = -1 ∨ (0 ≤ br ∧ br < NP n)) (hhl : hl = -1 ∨ (0 ≤ hl ∧ hl < NP n)) (hry : rayOk n ry) : ∀ iv : Int, 0 ≤ iv → iv ≤ (NP n) → ∀ (ft : Int → Int) (hf : ∀ p, 0 ≤ p → p < iv → ft p = footX n tb ry ax ba br hl p), m_Sem X 15 (30, [some (.inr (.inl 9)), some (.inr (.inl 1)), some (.inl ax), some (.inl ba), some (.inl iv), none], [], mW (n, T, h, t, (ry, ft, im, (NP n), br, hl)) M, 0, 0) (fun r w => r = none ∧ ∃ ft2, w = mW (n, T, h, t, (ry, ft2, im, NP n, br, hl)) M ∧ ∀ p, 0 ≤ p → p < NP n → ft2 p = footX n tb ry ax ba br hl p) := by
  have hn := hR.1
  have hln := okN_lo hn
  have hq := sq_b hn
  have hnp : NP n = n * n + n + 1 := rfl
  refine m_down 0 (NP n) ?_ ?_
  · intro ft hf
    show m_Sem X 15 (30, [some (.inr (.inl 9)), some (.inr (.inl 1)), some (.inl ax), some (.inl ba), some (.inl (NP n)), none], [], mW (n, T, h, t, (ry, ft, im, (NP n), br, hl)) M, 0, 0) _
    refine m_run 3 (ps' := (36, [some (.inr (.inl 9)), some (.inr (.inl 1)), some (.inl ax), some (.inl ba), some (.inl (NP n)), none], [.inl (NP n), .inl (NP n)], mW (n, T, h, t, (ry, ft, im, (NP n), br, hl)) M, 0, 0)) rfl ?_
    refine m_icmp rfl ⟨by omega, by omega⟩ ⟨by omega, by omega⟩ (fun (zc1 : (NP n) ≤ (NP n)) => ?_) (fun (zc1 : ¬ (NP n) ≤ (NP n)) => absurd zc1 (not_not_intro (by omega)))
    exact m_ret0 rfl rfl rfl (⟨rfl, ft, rfl, hf⟩)
  · intro iv hi1 hi2 ih ft hf
    have hr0 := hry iv hi1 hi2
    refine m_run 3 (ps' := (36, [some (.inr (.inl 9)), some (.inr (.inl 1)), some (.inl ax), some (.inl ba), some (.inl iv), none], [.inl (NP n), .inl iv], mW (n, T, h, t, (ry, ft, im, (NP n), br, hl)) M, 0, 0)) rfl ?_
    refine m_icmp rfl ⟨by omega, by omega⟩ ⟨by omega, by omega⟩ (fun (zc1 : (NP n) ≤ iv) => absurd zc1 (by omega)) (fun (zc1 : ¬ (NP n) ≤ iv) => ?_)
    refine m_run 2 (ps' := (43, [some (.inr (.inl 9)), some (.inr (.inl 1)), some (.inl ax), some (.inl ba), some (.inl iv), none], [.inl 91, .inl iv], mW (n, T, h, t, (ry, ft, im, (NP n), br, hl)) M, 0, 0)) rfl ?_
    refine m_icmp rfl ⟨by omega, by omega⟩ ⟨by omega, by omega⟩ (fun (zc2 : 91 ≤ iv) => absurd zc2 (by omega)) (fun (zc2 : ¬ 91 ≤ iv) => ?_)
    refine m_run 3 (ps' := (52, [some (.inr (.inl 9)), some (.inr (.inl 1)), some (.inl ax), some (.inl ba), some (.inl iv), none], [.inl iv, .inr (.inl 10)], mW (n, T, h, t, (ry, ft, im, (NP n), br, hl)) M, 0, 0)) rfl ?_
    refine m_iald rfl rfl (by omega) (by omega) (by decide) ?_
    refine m_run 2 (ps' := (57, [some (.inr (.inl 9)), some (.inr (.inl 1)), some (.inl ax), some (.inl ba), some (.inl iv), none], [.inl br, .inl (ry iv)], mW (n, T, h, t, (ry, ft, im, (NP n), br, hl)) M, 0, 0)) rfl ?_
    refine m_icmp rfl ⟨by omega, by omega⟩ ⟨by omega, by omega⟩ (fun (zc3 : ¬ (ry iv) = br) => ?_) (fun (zc3 : ¬ ¬ (ry iv) = br) => ?_)
    · refine m_run 8 (ps' := (82, [some (.inr (.inl 9)), some (.inr (.inl 1)), some (.inl ax), some (.inl ba), some (.inl iv), some (.inl ba)], [.inl iv, .inr (.inl 10), .inl iv, .inr (.inl 11)], mW (n, T, h, t, (ry, ft, im, (NP n), br, hl)) M, 0, 0)) rfl ?_
      refine m_iald rfl rfl (by omega) (by omega) (by decide) ?_
      refine m_run 1 (ps' := (84, [some (.inr (.inl 9)), some (.inr (.inl 1)), some (.inl ax), some (.inl ba), some (.inl iv), some (.inl ba)], [.inl (-1), .inl (ry iv), .inl iv, .inr (.inl 11)], mW (n, T, h, t, (ry, ft, im, (NP n), br, hl)) M, 0, 0)) rfl ?_
      refine m_icmp rfl ⟨by omega, by omega⟩ ⟨by omega, by omega⟩ (fun (zc4 : ¬ (ry iv) = (-1)) => ?_) (fun (zc4 : ¬ ¬ (ry iv) = (-1)) => ?_)
      · refine m_run 4 (ps' := (97, [some (.inr (.inl 9)), some (.inr (.inl 1)), some (.inl ax), some (.inl ba), some (.inl iv), some (.inl ba)], [.inl iv, .inl ba, .inr (.inl 1), .inr (.inl 1), .inl iv, .inr (.inl 11)], mW (n, T, h, t, (ry, ft, im, (NP n), br, hl)) M, 0, 0)) rfl ?_
        refine m_callVF [.inl ba, .inl iv] [.inr (.inl 1), .inl iv, .inr (.inl 11)] rfl rfl ⟨_, rfl, rfl⟩ rfl rfl (k_ln (p := ba) (q := iv) hR ⟨by omega, by omega⟩ ⟨by omega, by omega⟩) ?_
        have zt1 := lnC_in (n := n) (tb := tb) (p := ba) (q := iv)
        unfold NP at zt1
        show m_Sem X 15 (100, [some (.inr (.inl 9)), some (.inr (.inl 1)), some (.inl ax), some (.inl ba), some (.inl iv), some (.inl ba)], [.inl (lnC n tb ba iv), .inr (.inl 1), .inl iv, .inr (.inl 11)], mW (n, T, h, t, (ry, ft, im, (NP n), br, hl)) M, 0, 0) _
        refine m_run 1 (ps' := (101, [some (.inr (.inl 9)), some (.inr (.inl 1)), some (.inl ax), some (.inl ba), some (.inl iv), some (.inl ba)], [.inl ax, .inl (lnC n tb ba iv), .inr (.inl 1), .inl iv, .inr (.inl 11)], mW (n, T, h, t, (ry, ft, im, (NP n), br, hl)) M, 0, 0)) rfl ?_
        refine m_callVF [.inl (lnC n tb ba iv), .inl ax] [.inl iv, .inr (.inl 11)] rfl rfl ⟨_, rfl, rfl⟩ rfl rfl (k_mt (p := (lnC n tb ba iv)) (q := ax) hR ⟨by omega, by omega⟩ hax) ?_
        have zt2 := mtC_in (n := n) (tb := tb) (p := (lnC n tb ba iv)) (q := ax)
        unfold NP at zt2
        show m_Sem X 15 (104, [some (.inr (.inl 9)), some (.inr (.inl 1)), some (.inl ax), some (.inl ba), some (.inl iv), some (.inl ba)], [.inl (mtC n tb (lnC n tb ba iv) ax), .inl iv, .inr (.inl 11)], mW (n, T, h, t, (ry, ft, im, (NP n), br, hl)) M, 0, 0) _
        refine m_iast rfl rfl (by omega) (by omega) (by decide) ?_
        show m_Sem X 15 (105, [some (.inr (.inl 9)), some (.inr (.inl 1)), some (.inl ax), some (.inl ba), some (.inl iv), some (.inl ba)], [], mW (n, T, h, t, (ry, (m_up ft iv (mtC n tb (lnC n tb ba iv) ax)), im, (NP n), br, hl)) M, 0, 0) _
        refine m_run 2 (ps' := (30, [some (.inr (.inl 9)), some (.inr (.inl 1)), some (.inl ax), some (.inl ba), some (.inl (iv + 1)), some (.inl ba)], [], mW (n, T, h, t, (ry, (m_up ft iv (mtC n tb (lnC n tb ba iv) ax)), im, (NP n), br, hl)) M, 0, 0)) rfl ?_
        refine m_weak [some (.inr (.inl 9)), some (.inr (.inl 1)), some (.inl ax), some (.inl ba), some (.inl (iv + 1)), none] ⟨rfl, ⟨rfl, ⟨rfl, ⟨rfl, ⟨rfl, trivial⟩⟩⟩⟩⟩ ?_
        refine ih _ (fun p h1 h2 => ?_)
        by_cases hpi : p = iv
        · subst hpi
          rw [m_up_s]
          unfold footX
          (repeat' split) <;> first | rfl | (exfalso; omega) | omega | simp_all
        · rw [m_up_n _ _ hpi]
          exact hf p h1 (by omega)
      · replace zc4 : (ry iv) = (-1) := Decidable.not_not.mp zc4
        refine m_run 2 (ps' := (104, [some (.inr (.inl 9)), some (.inr (.inl 1)), some (.inl ax), some (.inl ba), some (.inl iv), some (.inl ba)], [.inl (-1), .inl iv, .inr (.inl 11)], mW (n, T, h, t, (ry, ft, im, (NP n), br, hl)) M, 0, 0)) rfl ?_
        refine m_iast rfl rfl (by omega) (by omega) (by decide) ?_
        show m_Sem X 15 (105, [some (.inr (.inl 9)), some (.inr (.inl 1)), some (.inl ax), some (.inl ba), some (.inl iv), some (.inl ba)], [], mW (n, T, h, t, (ry, (m_up ft iv (-1)), im, (NP n), br, hl)) M, 0, 0) _
        refine m_run 2 (ps' := (30, [some (.inr (.inl 9)), some (.inr (.inl 1)), some (.inl ax), some (.inl ba), some (.inl (iv + 1)), some (.inl ba)], [], mW (n, T, h, t, (ry, (m_up ft iv (-1)), im, (NP n), br, hl)) M, 0, 0)) rfl ?_
        refine m_weak [some (.inr (.inl 9)), some (.inr (.inl 1)), some (.inl ax), some (.inl ba), some (.inl (iv + 1)), none] ⟨rfl, ⟨rfl, ⟨rfl, ⟨rfl, ⟨rfl, trivial⟩⟩⟩⟩⟩ ?_
        refine ih _ (fun p h1 h2 => ?_)
        by_cases hpi : p = iv
        · subst hpi
          rw [m_up_s]
          unfold footX
          (repeat' split) <;> first | rfl | (exfalso; omega) | omega | simp_all
        · rw [m_up_n _ _ hpi]
          exact hf p h1 (by omega)
    · replace zc3 : (ry iv) = br := Decidable.not_not.mp zc3
      refine m_run 10 (ps' := (82, [some (.inr (.inl 9)), some (.inr (.inl 1)), some (.inl ax), some (.inl ba), some (.inl iv), some (.inl hl)], [.inl iv, .inr (.inl 10), .inl iv, .inr (.inl 11)], mW (n, T, h, t, (ry, ft, im, (NP n), br, hl)) M, 0, 0)) rfl ?_
      refine m_iald rfl rfl (by omega) (by omega) (by decide) ?_
      refine m_run 1 (ps' := (84, [some (.inr (.inl 9)), some (.inr (.inl 1)), some (.inl ax), some (.inl ba), some (.inl iv), some (.inl hl)], [.inl (-1), .inl (ry iv), .inl iv, .inr (.inl 11)], mW (n, T, h, t, (ry, ft, im, (NP n), br, hl)) M, 0, 0)) rfl ?_
      refine m_icmp rfl ⟨by omega, by omega⟩ ⟨by omega, by omega⟩ (fun (zc4 : ¬ (ry iv) = (-1)) => ?_) (fun (zc4 : ¬ ¬ (ry iv) = (-1)) => ?_)
      · refine m_run 4 (ps' := (97, [some (.inr (.inl 9)), some (.inr (.inl 1)), some (.inl ax), some (.inl ba), some (.inl iv), some (.inl hl)], [.inl iv, .inl hl, .inr (.inl 1), .inr (.inl 1), .inl iv, .inr (.inl 11)], mW (n, T, h, t, (ry, ft, im, (NP n), br, hl)) M, 0, 0)) rfl ?_
        refine m_callVF [.inl hl, .inl iv] [.inr (.inl 1), .inl iv, .inr (.inl 11)] rfl rfl ⟨_, rfl, rfl⟩ rfl rfl (k_ln (p := hl) (q := iv) hR ⟨by omega, by omega⟩ ⟨by omega, by omega⟩) ?_
        have zt1 := lnC_in (n := n) (tb := tb) (p := hl) (q := iv)
        unfold NP at zt1
        show m_Sem X 15 (100, [some (.inr (.inl 9)), some (.inr (.inl 1)), some (.inl ax), some (.inl ba), some (.inl iv), some (.inl hl)], [.inl (lnC n tb hl iv), .inr (.inl 1), .inl iv, .inr (.inl 11)], mW (n, T, h, t, (ry, ft, im, (NP n), br, hl)) M, 0, 0) _
        refine m_run 1 (ps' := (101, [some (.inr (.inl 9)), some (.inr (.inl 1)), some (.inl ax), some (.inl ba), some (.inl iv), some (.inl hl)], [.inl ax, .inl (lnC n tb hl iv), .inr (.inl 1), .inl iv, .inr (.inl 11)], mW (n, T, h, t, (ry, ft, im, (NP n), br, hl)) M, 0, 0)) rfl ?_
        refine m_callVF [.inl (lnC n tb hl iv), .inl ax] [.inl iv, .inr (.inl 11)] rfl rfl ⟨_, rfl, rfl⟩ rfl rfl (k_mt (p := (lnC n tb hl iv)) (q := ax) hR ⟨by omega, by omega⟩ hax) ?_
        have zt2 := mtC_in (n := n) (tb := tb) (p := (lnC n tb hl iv)) (q := ax)
        unfold NP at zt2
        show m_Sem X 15 (104, [some (.inr (.inl 9)), some (.inr (.inl 1)), some (.inl ax), some (.inl ba), some (.inl iv), some (.inl hl)], [.inl (mtC n tb (lnC n tb hl iv) ax), .inl iv, .inr (.inl 11)], mW (n, T, h, t, (ry, ft, im, (NP n), br, hl)) M, 0, 0) _
        refine m_iast rfl rfl (by omega) (by omega) (by decide) ?_
        show m_Sem X 15 (105, [some (.inr (.inl 9)), some (.inr (.inl 1)), some (.inl ax), some (.inl ba), some (.inl iv), some (.inl hl)], [], mW (n, T, h, t, (ry, (m_up ft iv (mtC n tb (lnC n tb hl iv) ax)), im, (NP n), br, hl)) M, 0, 0) _
        refine m_run 2 (ps' := (30, [some (.inr (.inl 9)), some (.inr (.inl 1)), some (.inl ax), some (.inl ba), some (.inl (iv + 1)), some (.inl hl)], [], mW (n, T, h, t, (ry, (m_up ft iv (mtC n tb (lnC n tb hl iv) ax)), im, (NP n), br, hl)) M, 0, 0)) rfl ?_
        refine m_weak [some (.inr (.inl 9)), some (.inr (.inl 1)), some (.inl ax), some (.inl ba), some (.inl (iv + 1)), none] ⟨rfl, ⟨rfl, ⟨rfl, ⟨rfl, ⟨rfl, trivial⟩⟩⟩⟩⟩ ?_
        refine ih _ (fun p h1 h2 => ?_)
        by_cases hpi : p = iv
        · subst hpi
          rw [m_up_s]
          unfold footX
          (repeat' split) <;> first | rfl | (exfalso; omega) | omega | simp_all
        · rw [m_up_n _ _ hpi]
          exact hf p h1 (by omega)
      · replace zc4 : (ry iv) = (-1) := Decidable.not_not.mp zc4
        refine m_run 2 (ps' := (104, [some (.inr (.inl 9)), some (.inr (.inl 1)), some (.inl ax), some (.inl ba), some (.inl iv), some (.inl hl)], [.inl (-1), .inl iv, .inr (.inl 11)], mW (n, T, h, t, (ry, ft, im, (NP n), br, hl)) M, 0, 0)) rfl ?_
        refine m_iast rfl rfl (by omega) (by omega) (by decide) ?_
        show m_Sem X 15 (105, [some (.inr (.inl 9)), some (.inr (.inl 1)), some (.inl ax), some (.inl ba), some (.inl iv), some (.inl hl)], [], mW (n, T, h, t, (ry, (m_up ft iv (-1)), im, (NP n), br, hl)) M, 0, 0) _
        refine m_run 2 (ps' := (30, [some (.inr (.inl 9)), some (.inr (.inl 1)), some (.inl ax), some (.inl ba), some (.inl (iv + 1)), some (.inl hl)], [], mW (n, T, h, t, (ry, (m_up ft iv (-1)), im, (NP n), br, hl)) M, 0, 0)) rfl ?_
        refine m_weak [some (.inr (.inl 9)), some (.inr (.inl 1)), some (.inl ax), some (.inl ba), some (.inl (iv + 1)), none] ⟨rfl, ⟨rfl, ⟨rfl, ⟨rfl, ⟨rfl, trivial⟩⟩⟩⟩⟩ ?_
        refine ih _ (fun p h1 h2 => ?_)
        by_cases hpi : p = iv
        · subst hpi
          rw [m_up_s]
          unfold footX
          (repeat' split) <;> first | rfl | (exfalso; omega) | omega | simp_all
        · rw [m_up_n _ _ hpi]
          exact hf p h1 (by omega)
theorem rgR_in {n p : Int} {ry : Int → Int} (hn : okN n) (hry : rayOk n ry) (h : p = -1 ∨ (0 ≤ p ∧ p < NP n)) : rgS ry p = -1 ∨ (0 ≤ rgS ry p ∧ rgS ry p < NP n) := by
  have hq := sq_b hn
  have hl := okN_lo hn
  have hnp : NP n = n * n + n + 1 := rfl
  rcases h with rfl | ⟨h1, h2⟩
  · exact Or.inl rfl
  · rw [rgS_at h1 (by omega)]
    exact hry p h1 h2
set_option maxHeartbeats 4000000 in
set_option maxRecDepth 100000 in
theorem k_lf {X : Nat × Nat × (Nat → Int32)} {n : Int} {T : Int → Int} {h : HS} {t : TS} {ry ft im : Int → Int} {br hl : Int} {M : MS} {tb : Int → Int → Int} {ax : Int} (hR : repC n T tb) (hax : m_R ax) (hry : rayOk n ry) : m_Run X 15 [.inr (.inl 9), .inr (.inl 1), .inl ax] (mW (n, T, h, t, (ry, ft, im, (NP n), br, hl)) M) (fun r w => r = none ∧ ∃ ft2, w = mW (n, T, h, t, (ry, ft2, im, NP n, rgS ry (loS n ry (-1)), loS n ry (rgS ry (loS n ry (-1))))) M ∧ ∀ p, 0 ≤ p → p < NP n → ft2 p = footX n tb ry ax (loS n ry (-1)) (rgS ry (loS n ry (-1))) (loS n ry (rgS ry (loS n ry (-1)))) p) := by
  have hn := hR.1
  have hln := okN_lo hn
  have hq := sq_b hn
  have hnp : NP n = n * n + n + 1 := rfl
  have e1 := loS_in (n := n) (lo := -1) (ry := ry) hn
  have e2 := rgR_in hn hry e1
  have e3 := loS_in (n := n) (lo := rgS ry (loS n ry (-1))) (ry := ry) hn
  show m_Sem X 15 (0, [some (.inr (.inl 9)), some (.inr (.inl 1)), some (.inl ax), none, none, none], [], mW (n, T, h, t, (ry, ft, im, (NP n), br, hl)) M, 0, 0) _
  refine m_run 2 (ps' := (2, [some (.inr (.inl 9)), some (.inr (.inl 1)), some (.inl ax), none, none, none], [.inl (-1), .inr (.inl 9)], mW (n, T, h, t, (ry, ft, im, (NP n), br, hl)) M, 0, 0)) rfl ?_
  refine m_callVF [.inl (-1)] [] rfl rfl ⟨_, rfl, rfl⟩ rfl rfl (k_lo (lo := (-1)) hR ⟨by omega, by omega⟩ hry) ?_
  have zt1 := loS_in (n := n) (lo := (-1)) (ry := ry) hn
  show m_Sem X 15 (5, [some (.inr (.inl 9)), some (.inr (.inl 1)), some (.inl ax), none, none, none], [.inl (loS n ry (-1))], mW (n, T, h, t, (ry, ft, im, (NP n), br, hl)) M, 0, 0) _
  refine m_run 4 (ps' := (9, [some (.inr (.inl 9)), some (.inr (.inl 1)), some (.inl ax), some (.inl (loS n ry (-1))), none, none], [.inl (loS n ry (-1)), .inr (.inl 9), .inr (.inl 9)], mW (n, T, h, t, (ry, ft, im, (NP n), br, hl)) M, 0, 0)) rfl ?_
  refine m_callVF [.inl (loS n ry (-1))] [.inr (.inl 9)] rfl rfl ⟨_, rfl, rfl⟩ rfl rfl (k_ray (p := (loS n ry (-1))) ⟨by omega, by omega⟩) ?_
  show m_Sem X 15 (12, [some (.inr (.inl 9)), some (.inr (.inl 1)), some (.inl ax), some (.inl (loS n ry (-1))), none, none], [.inl (rgS ry (loS n ry (-1))), .inr (.inl 9)], mW (n, T, h, t, (ry, ft, im, (NP n), br, hl)) M, 0, 0) _
  refine m_run 5 (ps' := (21, [some (.inr (.inl 9)), some (.inr (.inl 1)), some (.inl ax), some (.inl (loS n ry (-1))), none, none], [.inl (rgS ry (loS n ry (-1))), .inr (.inl 9), .inr (.inl 9)], mW (n, T, h, t, (ry, ft, im, (NP n), (rgS ry (loS n ry (-1))), hl)) M, 0, 0)) rfl ?_
  refine m_callVF [.inl (rgS ry (loS n ry (-1)))] [.inr (.inl 9)] rfl rfl ⟨_, rfl, rfl⟩ rfl rfl (k_lo (lo := (rgS ry (loS n ry (-1)))) hR ⟨by omega, by omega⟩ hry) ?_
  have zt2 := loS_in (n := n) (lo := (rgS ry (loS n ry (-1)))) (ry := ry) hn
  show m_Sem X 15 (24, [some (.inr (.inl 9)), some (.inr (.inl 1)), some (.inl ax), some (.inl (loS n ry (-1))), none, none], [.inl (loS n ry (rgS ry (loS n ry (-1)))), .inr (.inl 9)], mW (n, T, h, t, (ry, ft, im, (NP n), (rgS ry (loS n ry (-1))), hl)) M, 0, 0) _
  refine m_run 3 (ps' := (30, [some (.inr (.inl 9)), some (.inr (.inl 1)), some (.inl ax), some (.inl (loS n ry (-1))), some (.inl 0), none], [], mW (n, T, h, t, (ry, ft, im, (NP n), (rgS ry (loS n ry (-1))), (loS n ry (rgS ry (loS n ry (-1)))))) M, 0, 0)) rfl ?_
  refine m_weak [some (.inr (.inl 9)), some (.inr (.inl 1)), some (.inl ax), some (.inl (loS n ry (-1))), some (.inl 0), none] ⟨rfl, ⟨rfl, ⟨rfl, ⟨rfl, ⟨rfl, trivial⟩⟩⟩⟩⟩ ?_
  exact l_lf hR hax e1 e2 e3 hry 0 (by omega) (by omega) ft (fun p h1 h2 => absurd h2 (by omega))
def leadX (n : Int) (tb : Int → Int → Int) (ry ft im : Int → Int) (br sf : Int) (on : Bool) (p : Int) : Int := if ry p = -1 then im p else if decide (ry p = br) = on then mtC n tb (ry p) (lnC n tb (ft p) sf) else im p
set_option maxHeartbeats 4000000 in
set_option maxRecDepth 100000 in
theorem l_ld1 {X : Nat × Nat × (Nat → Int32)} {n : Int} {T : Int → Int} {h : HS} {t : TS} {ry ft : Int → Int} {br hl : Int} {M : MS} {tb : Int → Int → Int} {im0 : Int → Int} {sf : Int} (hR : repC n T tb) (hsf : m_R sf) (hbr : br = -1 ∨ (0 ≤ br ∧ br < NP n)) (hry : rayOk n ry) (hft : rayOk n ft) : ∀ iv : Int, 0 ≤ iv → iv ≤ (NP n) → ∀ (im : Int → Int) (hf : ∀ p, 0 ≤ p → p < NP n → im p = if p < iv then leadX n tb ry ft im0 br sf true p else im0 p), m_Sem X 20 (3, [some (.inr (.inl 9)), some (.inr (.inl 1)), some (.inl 1), some (.inl sf), some (.inl iv)], [], mW (n, T, h, t, (ry, ft, im, (NP n), br, hl)) M, 0, 0) (fun r w => r = none ∧ ∃ im2, w = mW (n, T, h, t, (ry, ft, im2, NP n, br, hl)) M ∧ ∀ p, 0 ≤ p → p < NP n → im2 p = leadX n tb ry ft im0 br sf true p) := by
  have hn := hR.1
  have hln := okN_lo hn
  have hq := sq_b hn
  have hnp : NP n = n * n + n + 1 := rfl
  refine m_down 0 (NP n) ?_ ?_
  · intro im hf
    show m_Sem X 20 (3, [some (.inr (.inl 9)), some (.inr (.inl 1)), some (.inl 1), some (.inl sf), some (.inl (NP n))], [], mW (n, T, h, t, (ry, ft, im, (NP n), br, hl)) M, 0, 0) _
    refine m_run 3 (ps' := (9, [some (.inr (.inl 9)), some (.inr (.inl 1)), some (.inl 1), some (.inl sf), some (.inl (NP n))], [.inl (NP n), .inl (NP n)], mW (n, T, h, t, (ry, ft, im, (NP n), br, hl)) M, 0, 0)) rfl ?_
    refine m_icmp rfl ⟨by omega, by omega⟩ ⟨by omega, by omega⟩ (fun (zc1 : (NP n) ≤ (NP n)) => ?_) (fun (zc1 : ¬ (NP n) ≤ (NP n)) => absurd zc1 (not_not_intro (by omega)))
    exact m_ret0 rfl rfl rfl (⟨rfl, im, rfl, fun p h1 h2 => by rw [hf p h1 h2, if_pos h2]⟩)
  · intro iv hi1 hi2 ih im hf
    have hr0 := hry iv hi1 hi2
    have hr1 := hft iv hi1 hi2
    refine m_run 3 (ps' := (9, [some (.inr (.inl 9)), some (.inr (.inl 1)), some (.inl 1), some (.inl sf), some (.inl iv)], [.inl (NP n), .inl iv], mW (n, T, h, t, (ry, ft, im, (NP n), br, hl)) M, 0, 0)) rfl ?_
    refine m_icmp rfl ⟨by omega, by omega⟩ ⟨by omega, by omega⟩ (fun (zc1 : (NP n) ≤ iv) => absurd zc1 (by omega)) (fun (zc1 : ¬ (NP n) ≤ iv) => ?_)
    refine m_run 2 (ps' := (16, [some (.inr (.inl 9)), some (.inr (.inl 1)), some (.inl 1), some (.inl sf), some (.inl iv)], [.inl 91, .inl iv], mW (n, T, h, t, (ry, ft, im, (NP n), br, hl)) M, 0, 0)) rfl ?_
    refine m_icmp rfl ⟨by omega, by omega⟩ ⟨by omega, by omega⟩ (fun (zc2 : 91 ≤ iv) => absurd zc2 (by omega)) (fun (zc2 : ¬ 91 ≤ iv) => ?_)
    refine m_run 3 (ps' := (25, [some (.inr (.inl 9)), some (.inr (.inl 1)), some (.inl 1), some (.inl sf), some (.inl iv)], [.inl iv, .inr (.inl 10)], mW (n, T, h, t, (ry, ft, im, (NP n), br, hl)) M, 0, 0)) rfl ?_
    refine m_iald rfl rfl (by omega) (by omega) (by decide) ?_
    refine m_run 1 (ps' := (27, [some (.inr (.inl 9)), some (.inr (.inl 1)), some (.inl 1), some (.inl sf), some (.inl iv)], [.inl (-1), .inl (ry iv)], mW (n, T, h, t, (ry, ft, im, (NP n), br, hl)) M, 0, 0)) rfl ?_
    refine m_icmp rfl ⟨by omega, by omega⟩ ⟨by omega, by omega⟩ (fun (zc3 : (ry iv) = (-1)) => ?_) (fun (zc3 : ¬ (ry iv) = (-1)) => ?_)
    · refine m_run 2 (ps' := (3, [some (.inr (.inl 9)), some (.inr (.inl 1)), some (.inl 1), some (.inl sf), some (.inl (iv + 1))], [], mW (n, T, h, t, (ry, ft, im, (NP n), br, hl)) M, 0, 0)) rfl ?_
      refine m_weak [some (.inr (.inl 9)), some (.inr (.inl 1)), some (.inl 1), some (.inl sf), some (.inl (iv + 1))] ⟨rfl, ⟨rfl, ⟨rfl, ⟨rfl, ⟨rfl, trivial⟩⟩⟩⟩⟩ ?_
      refine ih _ (fun p h1 h2 => ?_)
      by_cases hpi : p = iv
      · subst hpi
        rw [hf p h1 h2, if_neg (by omega), if_pos (by omega)]
        unfold leadX
        (repeat' split) <;> first | rfl | (exfalso; omega) | omega | simp_all
      · rw [hf p h1 h2]
        by_cases hc : p < iv
        · rw [if_pos hc, if_pos (by omega)]
        · rw [if_neg hc, if_neg (by omega)]
    · refine m_run 3 (ps' := (36, [some (.inr (.inl 9)), some (.inr (.inl 1)), some (.inl 1), some (.inl sf), some (.inl iv)], [.inl iv, .inr (.inl 10)], mW (n, T, h, t, (ry, ft, im, (NP n), br, hl)) M, 0, 0)) rfl ?_
      refine m_iald rfl rfl (by omega) (by omega) (by decide) ?_
      refine m_run 2 (ps' := (41, [some (.inr (.inl 9)), some (.inr (.inl 1)), some (.inl 1), some (.inl sf), some (.inl iv)], [.inl br, .inl (ry iv)], mW (n, T, h, t, (ry, ft, im, (NP n), br, hl)) M, 0, 0)) rfl ?_
      refine m_icmp rfl ⟨by omega, by omega⟩ ⟨by omega, by omega⟩ (fun (zc4 : ¬ (ry iv) = br) => ?_) (fun (zc4 : ¬ ¬ (ry iv) = br) => ?_)
      · refine m_run 2 (ps' := (50, [some (.inr (.inl 9)), some (.inr (.inl 1)), some (.inl 1), some (.inl sf), some (.inl iv)], [.inl 1, .inl 0], mW (n, T, h, t, (ry, ft, im, (NP n), br, hl)) M, 0, 0)) rfl ?_
        refine m_icmp rfl ⟨by omega, by omega⟩ ⟨by omega, by omega⟩ (fun (zc5 : ¬ 0 = 1) => ?_) (fun (zc5 : ¬ ¬ 0 = 1) => absurd zc5 (not_not_intro (by omega)))
        refine m_run 2 (ps' := (3, [some (.inr (.inl 9)), some (.inr (.inl 1)), some (.inl 1), some (.inl sf), some (.inl (iv + 1))], [], mW (n, T, h, t, (ry, ft, im, (NP n), br, hl)) M, 0, 0)) rfl ?_
        refine m_weak [some (.inr (.inl 9)), some (.inr (.inl 1)), some (.inl 1), some (.inl sf), some (.inl (iv + 1))] ⟨rfl, ⟨rfl, ⟨rfl, ⟨rfl, ⟨rfl, trivial⟩⟩⟩⟩⟩ ?_
        refine ih _ (fun p h1 h2 => ?_)
        by_cases hpi : p = iv
        · subst hpi
          rw [hf p h1 h2, if_neg (by omega), if_pos (by omega)]
          unfold leadX
          (repeat' split) <;> first | rfl | (exfalso; omega) | omega | simp_all
        · rw [hf p h1 h2]
          by_cases hc : p < iv
          · rw [if_pos hc, if_pos (by omega)]
          · rw [if_neg hc, if_neg (by omega)]
      · replace zc4 : (ry iv) = br := Decidable.not_not.mp zc4
        refine m_run 3 (ps' := (50, [some (.inr (.inl 9)), some (.inr (.inl 1)), some (.inl 1), some (.inl sf), some (.inl iv)], [.inl 1, .inl 1], mW (n, T, h, t, (ry, ft, im, (NP n), br, hl)) M, 0, 0)) rfl ?_
        refine m_icmp rfl ⟨by omega, by omega⟩ ⟨by omega, by omega⟩ (fun (zc5 : ¬ 1 = 1) => absurd zc5 (by omega)) (fun (zc5 : ¬ ¬ 1 = 1) => ?_)
        refine m_run 7 (ps' := (66, [some (.inr (.inl 9)), some (.inr (.inl 1)), some (.inl 1), some (.inl sf), some (.inl iv)], [.inl iv, .inr (.inl 10), .inr (.inl 1), .inl iv, .inr (.inl 12)], mW (n, T, h, t, (ry, ft, im, (NP n), br, hl)) M, 0, 0)) rfl ?_
        refine m_iald rfl rfl (by omega) (by omega) (by decide) ?_
        refine m_run 4 (ps' := (74, [some (.inr (.inl 9)), some (.inr (.inl 1)), some (.inl 1), some (.inl sf), some (.inl iv)], [.inl iv, .inr (.inl 11), .inr (.inl 1), .inl (ry iv), .inr (.inl 1), .inl iv, .inr (.inl 12)], mW (n, T, h, t, (ry, ft, im, (NP n), br, hl)) M, 0, 0)) rfl ?_
        refine m_iald rfl rfl (by omega) (by omega) (by decide) ?_
        refine m_run 1 (ps' := (76, [some (.inr (.inl 9)), some (.inr (.inl 1)), some (.inl 1), some (.inl sf), some (.inl iv)], [.inl sf, .inl (ft iv), .inr (.inl 1), .inl (ry iv), .inr (.inl 1), .inl iv, .inr (.inl 12)], mW (n, T, h, t, (ry, ft, im, (NP n), br, hl)) M, 0, 0)) rfl ?_
        refine m_callVF [.inl (ft iv), .inl sf] [.inl (ry iv), .inr (.inl 1), .inl iv, .inr (.inl 12)] rfl rfl ⟨_, rfl, rfl⟩ rfl rfl (k_ln (p := (ft iv)) (q := sf) hR ⟨by omega, by omega⟩ hsf) ?_
        have zt1 := lnC_in (n := n) (tb := tb) (p := (ft iv)) (q := sf)
        unfold NP at zt1
        show m_Sem X 20 (79, [some (.inr (.inl 9)), some (.inr (.inl 1)), some (.inl 1), some (.inl sf), some (.inl iv)], [.inl (lnC n tb (ft iv) sf), .inl (ry iv), .inr (.inl 1), .inl iv, .inr (.inl 12)], mW (n, T, h, t, (ry, ft, im, (NP n), br, hl)) M, 0, 0) _
        refine m_callVF [.inl (ry iv), .inl (lnC n tb (ft iv) sf)] [.inl iv, .inr (.inl 12)] rfl rfl ⟨_, rfl, rfl⟩ rfl rfl (k_mt (p := (ry iv)) (q := (lnC n tb (ft iv) sf)) hR ⟨by omega, by omega⟩ ⟨by omega, by omega⟩) ?_
        have zt2 := mtC_in (n := n) (tb := tb) (p := (ry iv)) (q := (lnC n tb (ft iv) sf))
        unfold NP at zt2
        show m_Sem X 20 (82, [some (.inr (.inl 9)), some (.inr (.inl 1)), some (.inl 1), some (.inl sf), some (.inl iv)], [.inl (mtC n tb (ry iv) (lnC n tb (ft iv) sf)), .inl iv, .inr (.inl 12)], mW (n, T, h, t, (ry, ft, im, (NP n), br, hl)) M, 0, 0) _
        refine m_iast rfl rfl (by omega) (by omega) (by decide) ?_
        show m_Sem X 20 (83, [some (.inr (.inl 9)), some (.inr (.inl 1)), some (.inl 1), some (.inl sf), some (.inl iv)], [], mW (n, T, h, t, (ry, ft, (m_up im iv (mtC n tb (ry iv) (lnC n tb (ft iv) sf))), (NP n), br, hl)) M, 0, 0) _
        refine m_run 2 (ps' := (3, [some (.inr (.inl 9)), some (.inr (.inl 1)), some (.inl 1), some (.inl sf), some (.inl (iv + 1))], [], mW (n, T, h, t, (ry, ft, (m_up im iv (mtC n tb (ry iv) (lnC n tb (ft iv) sf))), (NP n), br, hl)) M, 0, 0)) rfl ?_
        refine m_weak [some (.inr (.inl 9)), some (.inr (.inl 1)), some (.inl 1), some (.inl sf), some (.inl (iv + 1))] ⟨rfl, ⟨rfl, ⟨rfl, ⟨rfl, ⟨rfl, trivial⟩⟩⟩⟩⟩ ?_
        refine ih _ (fun p h1 h2 => ?_)
        by_cases hpi : p = iv
        · subst hpi
          rw [m_up_s, if_pos (by omega)]
          unfold leadX
          (repeat' split) <;> first | rfl | (exfalso; omega) | omega | simp_all
        · rw [m_up_n _ _ hpi, hf p h1 h2]
          by_cases hc : p < iv
          · rw [if_pos hc, if_pos (by omega)]
          · rw [if_neg hc, if_neg (by omega)]
set_option maxHeartbeats 4000000 in
set_option maxRecDepth 100000 in
theorem k_ld1 {X : Nat × Nat × (Nat → Int32)} {n : Int} {T : Int → Int} {h : HS} {t : TS} {ry ft im : Int → Int} {br hl : Int} {M : MS} {tb : Int → Int → Int} {sf : Int} (hR : repC n T tb) (hsf : m_R sf) (hbr : br = -1 ∨ (0 ≤ br ∧ br < NP n)) (hry : rayOk n ry) (hft : rayOk n ft) : m_Run X 20 [.inr (.inl 9), .inr (.inl 1), .inl 1, .inl sf] (mW (n, T, h, t, (ry, ft, im, (NP n), br, hl)) M) (fun r w => r = none ∧ ∃ im2, w = mW (n, T, h, t, (ry, ft, im2, NP n, br, hl)) M ∧ ∀ p, 0 ≤ p → p < NP n → im2 p = leadX n tb ry ft im br sf true p) := by
  have hn := hR.1
  have hln := okN_lo hn
  have hq := sq_b hn
  have hnp : NP n = n * n + n + 1 := rfl
  show m_Sem X 20 (0, [some (.inr (.inl 9)), some (.inr (.inl 1)), some (.inl 1), some (.inl sf), none], [], mW (n, T, h, t, (ry, ft, im, (NP n), br, hl)) M, 0, 0) _
  refine m_run 2 (ps' := (3, [some (.inr (.inl 9)), some (.inr (.inl 1)), some (.inl 1), some (.inl sf), some (.inl 0)], [], mW (n, T, h, t, (ry, ft, im, (NP n), br, hl)) M, 0, 0)) rfl ?_
  refine m_weak [some (.inr (.inl 9)), some (.inr (.inl 1)), some (.inl 1), some (.inl sf), some (.inl 0)] ⟨rfl, ⟨rfl, ⟨rfl, ⟨rfl, ⟨rfl, trivial⟩⟩⟩⟩⟩ ?_
  exact l_ld1 hR hsf hbr hry hft 0 (by omega) (by omega) im (fun p h1 h2 => by rw [if_neg (by omega)])
set_option maxHeartbeats 4000000 in
set_option maxRecDepth 100000 in
theorem l_ld0 {X : Nat × Nat × (Nat → Int32)} {n : Int} {T : Int → Int} {h : HS} {t : TS} {ry ft : Int → Int} {br hl : Int} {M : MS} {tb : Int → Int → Int} {im0 : Int → Int} {sf : Int} (hR : repC n T tb) (hsf : m_R sf) (hbr : br = -1 ∨ (0 ≤ br ∧ br < NP n)) (hry : rayOk n ry) (hft : rayOk n ft) : ∀ iv : Int, 0 ≤ iv → iv ≤ (NP n) → ∀ (im : Int → Int) (hf : ∀ p, 0 ≤ p → p < NP n → im p = if p < iv then leadX n tb ry ft im0 br sf false p else im0 p), m_Sem X 20 (3, [some (.inr (.inl 9)), some (.inr (.inl 1)), some (.inl 0), some (.inl sf), some (.inl iv)], [], mW (n, T, h, t, (ry, ft, im, (NP n), br, hl)) M, 0, 0) (fun r w => r = none ∧ ∃ im2, w = mW (n, T, h, t, (ry, ft, im2, NP n, br, hl)) M ∧ ∀ p, 0 ≤ p → p < NP n → im2 p = leadX n tb ry ft im0 br sf false p) := by
  have hn := hR.1
  have hln := okN_lo hn
  have hq := sq_b hn
  have hnp : NP n = n * n + n + 1 := rfl
  refine m_down 0 (NP n) ?_ ?_
  · intro im hf
    show m_Sem X 20 (3, [some (.inr (.inl 9)), some (.inr (.inl 1)), some (.inl 0), some (.inl sf), some (.inl (NP n))], [], mW (n, T, h, t, (ry, ft, im, (NP n), br, hl)) M, 0, 0) _
    refine m_run 3 (ps' := (9, [some (.inr (.inl 9)), some (.inr (.inl 1)), some (.inl 0), some (.inl sf), some (.inl (NP n))], [.inl (NP n), .inl (NP n)], mW (n, T, h, t, (ry, ft, im, (NP n), br, hl)) M, 0, 0)) rfl ?_
    refine m_icmp rfl ⟨by omega, by omega⟩ ⟨by omega, by omega⟩ (fun (zc1 : (NP n) ≤ (NP n)) => ?_) (fun (zc1 : ¬ (NP n) ≤ (NP n)) => absurd zc1 (not_not_intro (by omega)))
    exact m_ret0 rfl rfl rfl (⟨rfl, im, rfl, fun p h1 h2 => by rw [hf p h1 h2, if_pos h2]⟩)
  · intro iv hi1 hi2 ih im hf
    have hr0 := hry iv hi1 hi2
    have hr1 := hft iv hi1 hi2
    refine m_run 3 (ps' := (9, [some (.inr (.inl 9)), some (.inr (.inl 1)), some (.inl 0), some (.inl sf), some (.inl iv)], [.inl (NP n), .inl iv], mW (n, T, h, t, (ry, ft, im, (NP n), br, hl)) M, 0, 0)) rfl ?_
    refine m_icmp rfl ⟨by omega, by omega⟩ ⟨by omega, by omega⟩ (fun (zc1 : (NP n) ≤ iv) => absurd zc1 (by omega)) (fun (zc1 : ¬ (NP n) ≤ iv) => ?_)
    refine m_run 2 (ps' := (16, [some (.inr (.inl 9)), some (.inr (.inl 1)), some (.inl 0), some (.inl sf), some (.inl iv)], [.inl 91, .inl iv], mW (n, T, h, t, (ry, ft, im, (NP n), br, hl)) M, 0, 0)) rfl ?_
    refine m_icmp rfl ⟨by omega, by omega⟩ ⟨by omega, by omega⟩ (fun (zc2 : 91 ≤ iv) => absurd zc2 (by omega)) (fun (zc2 : ¬ 91 ≤ iv) => ?_)
    refine m_run 3 (ps' := (25, [some (.inr (.inl 9)), some (.inr (.inl 1)), some (.inl 0), some (.inl sf), some (.inl iv)], [.inl iv, .inr (.inl 10)], mW (n, T, h, t, (ry, ft, im, (NP n), br, hl)) M, 0, 0)) rfl ?_
    refine m_iald rfl rfl (by omega) (by omega) (by decide) ?_
    refine m_run 1 (ps' := (27, [some (.inr (.inl 9)), some (.inr (.inl 1)), some (.inl 0), some (.inl sf), some (.inl iv)], [.inl (-1), .inl (ry iv)], mW (n, T, h, t, (ry, ft, im, (NP n), br, hl)) M, 0, 0)) rfl ?_
    refine m_icmp rfl ⟨by omega, by omega⟩ ⟨by omega, by omega⟩ (fun (zc3 : (ry iv) = (-1)) => ?_) (fun (zc3 : ¬ (ry iv) = (-1)) => ?_)
    · refine m_run 2 (ps' := (3, [some (.inr (.inl 9)), some (.inr (.inl 1)), some (.inl 0), some (.inl sf), some (.inl (iv + 1))], [], mW (n, T, h, t, (ry, ft, im, (NP n), br, hl)) M, 0, 0)) rfl ?_
      refine m_weak [some (.inr (.inl 9)), some (.inr (.inl 1)), some (.inl 0), some (.inl sf), some (.inl (iv + 1))] ⟨rfl, ⟨rfl, ⟨rfl, ⟨rfl, ⟨rfl, trivial⟩⟩⟩⟩⟩ ?_
      refine ih _ (fun p h1 h2 => ?_)
      by_cases hpi : p = iv
      · subst hpi
        rw [hf p h1 h2, if_neg (by omega), if_pos (by omega)]
        unfold leadX
        (repeat' split) <;> first | rfl | (exfalso; omega) | omega | simp_all
      · rw [hf p h1 h2]
        by_cases hc : p < iv
        · rw [if_pos hc, if_pos (by omega)]
        · rw [if_neg hc, if_neg (by omega)]
    · refine m_run 3 (ps' := (36, [some (.inr (.inl 9)), some (.inr (.inl 1)), some (.inl 0), some (.inl sf), some (.inl iv)], [.inl iv, .inr (.inl 10)], mW (n, T, h, t, (ry, ft, im, (NP n), br, hl)) M, 0, 0)) rfl ?_
      refine m_iald rfl rfl (by omega) (by omega) (by decide) ?_
      refine m_run 2 (ps' := (41, [some (.inr (.inl 9)), some (.inr (.inl 1)), some (.inl 0), some (.inl sf), some (.inl iv)], [.inl br, .inl (ry iv)], mW (n, T, h, t, (ry, ft, im, (NP n), br, hl)) M, 0, 0)) rfl ?_
      refine m_icmp rfl ⟨by omega, by omega⟩ ⟨by omega, by omega⟩ (fun (zc4 : ¬ (ry iv) = br) => ?_) (fun (zc4 : ¬ ¬ (ry iv) = br) => ?_)
      · refine m_run 2 (ps' := (50, [some (.inr (.inl 9)), some (.inr (.inl 1)), some (.inl 0), some (.inl sf), some (.inl iv)], [.inl 0, .inl 0], mW (n, T, h, t, (ry, ft, im, (NP n), br, hl)) M, 0, 0)) rfl ?_
        refine m_icmp rfl ⟨by omega, by omega⟩ ⟨by omega, by omega⟩ (fun (zc5 : ¬ 0 = 0) => absurd zc5 (by omega)) (fun (zc5 : ¬ ¬ 0 = 0) => ?_)
        refine m_run 7 (ps' := (66, [some (.inr (.inl 9)), some (.inr (.inl 1)), some (.inl 0), some (.inl sf), some (.inl iv)], [.inl iv, .inr (.inl 10), .inr (.inl 1), .inl iv, .inr (.inl 12)], mW (n, T, h, t, (ry, ft, im, (NP n), br, hl)) M, 0, 0)) rfl ?_
        refine m_iald rfl rfl (by omega) (by omega) (by decide) ?_
        refine m_run 4 (ps' := (74, [some (.inr (.inl 9)), some (.inr (.inl 1)), some (.inl 0), some (.inl sf), some (.inl iv)], [.inl iv, .inr (.inl 11), .inr (.inl 1), .inl (ry iv), .inr (.inl 1), .inl iv, .inr (.inl 12)], mW (n, T, h, t, (ry, ft, im, (NP n), br, hl)) M, 0, 0)) rfl ?_
        refine m_iald rfl rfl (by omega) (by omega) (by decide) ?_
        refine m_run 1 (ps' := (76, [some (.inr (.inl 9)), some (.inr (.inl 1)), some (.inl 0), some (.inl sf), some (.inl iv)], [.inl sf, .inl (ft iv), .inr (.inl 1), .inl (ry iv), .inr (.inl 1), .inl iv, .inr (.inl 12)], mW (n, T, h, t, (ry, ft, im, (NP n), br, hl)) M, 0, 0)) rfl ?_
        refine m_callVF [.inl (ft iv), .inl sf] [.inl (ry iv), .inr (.inl 1), .inl iv, .inr (.inl 12)] rfl rfl ⟨_, rfl, rfl⟩ rfl rfl (k_ln (p := (ft iv)) (q := sf) hR ⟨by omega, by omega⟩ hsf) ?_
        have zt1 := lnC_in (n := n) (tb := tb) (p := (ft iv)) (q := sf)
        unfold NP at zt1
        show m_Sem X 20 (79, [some (.inr (.inl 9)), some (.inr (.inl 1)), some (.inl 0), some (.inl sf), some (.inl iv)], [.inl (lnC n tb (ft iv) sf), .inl (ry iv), .inr (.inl 1), .inl iv, .inr (.inl 12)], mW (n, T, h, t, (ry, ft, im, (NP n), br, hl)) M, 0, 0) _
        refine m_callVF [.inl (ry iv), .inl (lnC n tb (ft iv) sf)] [.inl iv, .inr (.inl 12)] rfl rfl ⟨_, rfl, rfl⟩ rfl rfl (k_mt (p := (ry iv)) (q := (lnC n tb (ft iv) sf)) hR ⟨by omega, by omega⟩ ⟨by omega, by omega⟩) ?_
        have zt2 := mtC_in (n := n) (tb := tb) (p := (ry iv)) (q := (lnC n tb (ft iv) sf))
        unfold NP at zt2
        show m_Sem X 20 (82, [some (.inr (.inl 9)), some (.inr (.inl 1)), some (.inl 0), some (.inl sf), some (.inl iv)], [.inl (mtC n tb (ry iv) (lnC n tb (ft iv) sf)), .inl iv, .inr (.inl 12)], mW (n, T, h, t, (ry, ft, im, (NP n), br, hl)) M, 0, 0) _
        refine m_iast rfl rfl (by omega) (by omega) (by decide) ?_
        show m_Sem X 20 (83, [some (.inr (.inl 9)), some (.inr (.inl 1)), some (.inl 0), some (.inl sf), some (.inl iv)], [], mW (n, T, h, t, (ry, ft, (m_up im iv (mtC n tb (ry iv) (lnC n tb (ft iv) sf))), (NP n), br, hl)) M, 0, 0) _
        refine m_run 2 (ps' := (3, [some (.inr (.inl 9)), some (.inr (.inl 1)), some (.inl 0), some (.inl sf), some (.inl (iv + 1))], [], mW (n, T, h, t, (ry, ft, (m_up im iv (mtC n tb (ry iv) (lnC n tb (ft iv) sf))), (NP n), br, hl)) M, 0, 0)) rfl ?_
        refine m_weak [some (.inr (.inl 9)), some (.inr (.inl 1)), some (.inl 0), some (.inl sf), some (.inl (iv + 1))] ⟨rfl, ⟨rfl, ⟨rfl, ⟨rfl, ⟨rfl, trivial⟩⟩⟩⟩⟩ ?_
        refine ih _ (fun p h1 h2 => ?_)
        by_cases hpi : p = iv
        · subst hpi
          rw [m_up_s, if_pos (by omega)]
          unfold leadX
          (repeat' split) <;> first | rfl | (exfalso; omega) | omega | simp_all
        · rw [m_up_n _ _ hpi, hf p h1 h2]
          by_cases hc : p < iv
          · rw [if_pos hc, if_pos (by omega)]
          · rw [if_neg hc, if_neg (by omega)]
      · replace zc4 : (ry iv) = br := Decidable.not_not.mp zc4
        refine m_run 3 (ps' := (50, [some (.inr (.inl 9)), some (.inr (.inl 1)), some (.inl 0), some (.inl sf), some (.inl iv)], [.inl 0, .inl 1], mW (n, T, h, t, (ry, ft, im, (NP n), br, hl)) M, 0, 0)) rfl ?_
        refine m_icmp rfl ⟨by omega, by omega⟩ ⟨by omega, by omega⟩ (fun (zc5 : ¬ 1 = 0) => ?_) (fun (zc5 : ¬ ¬ 1 = 0) => absurd zc5 (not_not_intro (by omega)))
        refine m_run 2 (ps' := (3, [some (.inr (.inl 9)), some (.inr (.inl 1)), some (.inl 0), some (.inl sf), some (.inl (iv + 1))], [], mW (n, T, h, t, (ry, ft, im, (NP n), br, hl)) M, 0, 0)) rfl ?_
        refine m_weak [some (.inr (.inl 9)), some (.inr (.inl 1)), some (.inl 0), some (.inl sf), some (.inl (iv + 1))] ⟨rfl, ⟨rfl, ⟨rfl, ⟨rfl, ⟨rfl, trivial⟩⟩⟩⟩⟩ ?_
        refine ih _ (fun p h1 h2 => ?_)
        by_cases hpi : p = iv
        · subst hpi
          rw [hf p h1 h2, if_neg (by omega), if_pos (by omega)]
          unfold leadX
          (repeat' split) <;> first | rfl | (exfalso; omega) | omega | simp_all
        · rw [hf p h1 h2]
          by_cases hc : p < iv
          · rw [if_pos hc, if_pos (by omega)]
          · rw [if_neg hc, if_neg (by omega)]
set_option maxHeartbeats 4000000 in
set_option maxRecDepth 100000 in
theorem k_ld0 {X : Nat × Nat × (Nat → Int32)} {n : Int} {T : Int → Int} {h : HS} {t : TS} {ry ft im : Int → Int} {br hl : Int} {M : MS} {tb : Int → Int → Int} {sf : Int} (hR : repC n T tb) (hsf : m_R sf) (hbr : br = -1 ∨ (0 ≤ br ∧ br < NP n)) (hry : rayOk n ry) (hft : rayOk n ft) : m_Run X 20 [.inr (.inl 9), .inr (.inl 1), .inl 0, .inl sf] (mW (n, T, h, t, (ry, ft, im, (NP n), br, hl)) M) (fun r w => r = none ∧ ∃ im2, w = mW (n, T, h, t, (ry, ft, im2, NP n, br, hl)) M ∧ ∀ p, 0 ≤ p → p < NP n → im2 p = leadX n tb ry ft im br sf false p) := by
  have hn := hR.1
  have hln := okN_lo hn
  have hq := sq_b hn
  have hnp : NP n = n * n + n + 1 := rfl
  show m_Sem X 20 (0, [some (.inr (.inl 9)), some (.inr (.inl 1)), some (.inl 0), some (.inl sf), none], [], mW (n, T, h, t, (ry, ft, im, (NP n), br, hl)) M, 0, 0) _
  refine m_run 2 (ps' := (3, [some (.inr (.inl 9)), some (.inr (.inl 1)), some (.inl 0), some (.inl sf), some (.inl 0)], [], mW (n, T, h, t, (ry, ft, im, (NP n), br, hl)) M, 0, 0)) rfl ?_
  refine m_weak [some (.inr (.inl 9)), some (.inr (.inl 1)), some (.inl 0), some (.inl sf), some (.inl 0)] ⟨rfl, ⟨rfl, ⟨rfl, ⟨rfl, ⟨rfl, trivial⟩⟩⟩⟩⟩ ?_
  exact l_ld0 hR hsf hbr hry hft 0 (by omega) (by omega) im (fun p h1 h2 => by rw [if_neg (by omega)])
def ldX (n : Int) (tb : Int → Int → Int) (im : Int → Int) (l : Int) : Bool := allF (fun i => onC n tb (rgS im (ptC n tb l i)) (lnC n tb (rgS im (ptC n tb l 0)) (rgS im (ptC n tb l 1)))) (n + 1 - 2).toNat 2
set_option maxHeartbeats 4000000 in
set_option maxRecDepth 100000 in
theorem l_ll {X : Nat × Nat × (Nat → Int32)} {n : Int} {T : Int → Int} {h : HS} {t : TS} {ry ft im : Int → Int} {en br hl : Int} {M : MS} {tb : Int → Int → Int} {l : Int} {o : Bool} (hR : repC n T tb) (hll : m_R l) (him : rayOk n im) : ∀ iv : Int, 2 ≤ iv → iv ≤ n + 1 → ∀ (ho : allF (fun i => onC n tb (rgS im (ptC n tb l i)) (lnC n tb (rgS im (ptC n tb l 0)) (rgS im (ptC n tb l 1)))) (n + 1 - iv).toNat iv = o), m_Sem X 21 (35, [some (.inr (.inl 9)), some (.inr (.inl 1)), some (.inl l), none, none, some (.inl (lnC n tb (rgS im (ptC n tb l 0)) (rgS im (ptC n tb l 1)))), some (.inl iv)], [], mW (n, T, h, t, (ry, ft, im, en, br, hl)) M, 0, 0) (m_V (bI o) (mW (n, T, h, t, (ry, ft, im, en, br, hl)) M)) := by
  have hn := hR.1
  have hln := okN_lo hn
  have hq := sq_b hn
  have hnp : NP n = n * n + n + 1 := rfl
  refine m_down 2 (n + 1) ?_ ?_
  · intro ho
    show m_Sem X 21 (35, [some (.inr (.inl 9)), some (.inr (.inl 1)), some (.inl l), none, none, some (.inl (lnC n tb (rgS im (ptC n tb l 0)) (rgS im (ptC n tb l 1)))), some (.inl (n + 1))], [], mW (n, T, h, t, (ry, ft, im, en, br, hl)) M, 0, 0) _
    refine m_run 4 (ps' := (44, [some (.inr (.inl 9)), some (.inr (.inl 1)), some (.inl l), none, none, some (.inl (lnC n tb (rgS im (ptC n tb l 0)) (rgS im (ptC n tb l 1)))), some (.inl (n + 1))], [.inl n, .inl (n + 1)], mW (n, T, h, t, (ry, ft, im, en, br, hl)) M, 0, 0)) rfl ?_
    refine m_icmp rfl ⟨by omega, by omega⟩ ⟨by omega, by omega⟩ (fun (zc1 : n < n + 1) => ?_) (fun (zc1 : ¬ n < n + 1) => absurd zc1 (not_not_intro (by omega)))
    refine m_run 1 (ps' := (76, [some (.inr (.inl 9)), some (.inr (.inl 1)), some (.inl l), none, none, some (.inl (lnC n tb (rgS im (ptC n tb l 0)) (rgS im (ptC n tb l 1)))), some (.inl (n + 1))], [.inl 1], mW (n, T, h, t, (ry, ft, im, en, br, hl)) M, 0, 0)) rfl ?_
    exact m_ret1 rfl (Or.inr ⟨rfl, Or.inr rfl⟩) rfl (m_Vb (by rw [all_end] at ho; subst ho; rfl))
  · intro iv hi1 hi2 ih ho
    have g1 := ptC_in (l := l) (i := iv) hn hR.tb
    have g2 := rgR_in hn him g1
    have g3 := lnC_in (n := n) (tb := tb) (p := (rgS im (ptC n tb l 0))) (q := (rgS im (ptC n tb l 1)))
    refine m_run 4 (ps' := (44, [some (.inr (.inl 9)), some (.inr (.inl 1)), some (.inl l), none, none, some (.inl (lnC n tb (rgS im (ptC n tb l 0)) (rgS im (ptC n tb l 1)))), some (.inl iv)], [.inl n, .inl iv], mW (n, T, h, t, (ry, ft, im, en, br, hl)) M, 0, 0)) rfl ?_
    refine m_icmp rfl ⟨by omega, by omega⟩ ⟨by omega, by omega⟩ (fun (zc1 : n < iv) => absurd zc1 (by omega)) (fun (zc1 : ¬ n < iv) => ?_)
    refine m_run 5 (ps' := (53, [some (.inr (.inl 9)), some (.inr (.inl 1)), some (.inl l), none, none, some (.inl (lnC n tb (rgS im (ptC n tb l 0)) (rgS im (ptC n tb l 1)))), some (.inl iv)], [.inl iv, .inl l, .inr (.inl 1), .inr (.inl 9), .inr (.inl 1)], mW (n, T, h, t, (ry, ft, im, en, br, hl)) M, 0, 0)) rfl ?_
    refine m_callVF [.inl l, .inl iv] [.inr (.inl 9), .inr (.inl 1)] rfl rfl ⟨_, rfl, rfl⟩ rfl rfl (k_pt (l := l) (i := iv) hR hll ⟨by omega, by omega⟩) ?_
    have zt1 := ptC_in (l := l) (i := iv) hn hR.tb
    unfold NP at zt1
    show m_Sem X 21 (56, [some (.inr (.inl 9)), some (.inr (.inl 1)), some (.inl l), none, none, some (.inl (lnC n tb (rgS im (ptC n tb l 0)) (rgS im (ptC n tb l 1)))), some (.inl iv)], [.inl (ptC n tb l iv), .inr (.inl 9), .inr (.inl 1)], mW (n, T, h, t, (ry, ft, im, en, br, hl)) M, 0, 0) _
    refine m_callVF [.inl (ptC n tb l iv)] [.inr (.inl 1)] rfl rfl ⟨_, rfl, rfl⟩ rfl rfl (k_img (p := (ptC n tb l iv)) ⟨by omega, by omega⟩) ?_
    show m_Sem X 21 (59, [some (.inr (.inl 9)), some (.inr (.inl 1)), some (.inl l), none, none, some (.inl (lnC n tb (rgS im (ptC n tb l 0)) (rgS im (ptC n tb l 1)))), some (.inl iv)], [.inl (rgS im (ptC n tb l iv)), .inr (.inl 1)], mW (n, T, h, t, (ry, ft, im, en, br, hl)) M, 0, 0) _
    refine m_run 1 (ps' := (61, [some (.inr (.inl 9)), some (.inr (.inl 1)), some (.inl l), none, none, some (.inl (lnC n tb (rgS im (ptC n tb l 0)) (rgS im (ptC n tb l 1)))), some (.inl iv)], [.inl (lnC n tb (rgS im (ptC n tb l 0)) (rgS im (ptC n tb l 1))), .inl (rgS im (ptC n tb l iv)), .inr (.inl 1)], mW (n, T, h, t, (ry, ft, im, en, br, hl)) M, 0, 0)) rfl ?_
    refine m_callVF [.inl (rgS im (ptC n tb l iv)), .inl (lnC n tb (rgS im (ptC n tb l 0)) (rgS im (ptC n tb l 1)))] [] rfl rfl ⟨_, rfl, rfl⟩ rfl rfl (k_on (p := (rgS im (ptC n tb l iv))) (l := (lnC n tb (rgS im (ptC n tb l 0)) (rgS im (ptC n tb l 1)))) hR ⟨by omega, by omega⟩ ⟨by omega, by omega⟩) ?_
    show m_Sem X 21 (64, [some (.inr (.inl 9)), some (.inr (.inl 1)), some (.inl l), none, none, some (.inl (lnC n tb (rgS im (ptC n tb l 0)) (rgS im (ptC n tb l 1)))), some (.inl iv)], [.inl (bI (onC n tb (rgS im (ptC n tb l iv)) (lnC n tb (rgS im (ptC n tb l 0)) (rgS im (ptC n tb l 1)))))], mW (n, T, h, t, (ry, ft, im, en, br, hl)) M, 0, 0) _
    refine m_if rfl (bI_R (onC n tb (rgS im (ptC n tb l iv)) (lnC n tb (rgS im (ptC n tb l 0)) (rgS im (ptC n tb l 1))))) (fun (zc2 : ¬ (bI (onC n tb (rgS im (ptC n tb l iv)) (lnC n tb (rgS im (ptC n tb l 0)) (rgS im (ptC n tb l 1))))) = 0) => ?_) (fun (zc2 : ¬ ¬ (bI (onC n tb (rgS im (ptC n tb l iv)) (lnC n tb (rgS im (ptC n tb l 0)) (rgS im (ptC n tb l 1))))) = 0) => ?_)
    · replace zc2 : (onC n tb (rgS im (ptC n tb l iv)) (lnC n tb (rgS im (ptC n tb l 0)) (rgS im (ptC n tb l 1)))) = true := bI_n0.mp zc2
      refine m_run 2 (ps' := (35, [some (.inr (.inl 9)), some (.inr (.inl 1)), some (.inl l), none, none, some (.inl (lnC n tb (rgS im (ptC n tb l 0)) (rgS im (ptC n tb l 1)))), some (.inl (iv + 1))], [], mW (n, T, h, t, (ry, ft, im, en, br, hl)) M, 0, 0)) rfl ?_
      refine m_weak [some (.inr (.inl 9)), some (.inr (.inl 1)), some (.inl l), none, none, some (.inl (lnC n tb (rgS im (ptC n tb l 0)) (rgS im (ptC n tb l 1)))), some (.inl (iv + 1))] ⟨rfl, ⟨rfl, ⟨rfl, ⟨rfl, ⟨rfl, trivial⟩⟩⟩⟩⟩ ?_
      rw [all_t hi2 zc2] at ho
      exact ih ho
    · replace zc2 : (onC n tb (rgS im (ptC n tb l iv)) (lnC n tb (rgS im (ptC n tb l 0)) (rgS im (ptC n tb l 1)))) = false := bI_e0.mp (Decidable.not_not.mp zc2)
      refine m_run 1 (ps' := (68, [some (.inr (.inl 9)), some (.inr (.inl 1)), some (.inl l), none, none, some (.inl (lnC n tb (rgS im (ptC n tb l 0)) (rgS im (ptC n tb l 1)))), some (.inl iv)], [.inl 0], mW (n, T, h, t, (ry, ft, im, en, br, hl)) M, 0, 0)) rfl ?_
      exact m_ret1 rfl (Or.inr ⟨rfl, Or.inl rfl⟩) rfl (m_Vb (by rw [all_f hi2 zc2] at ho; subst ho; rfl))
set_option maxHeartbeats 4000000 in
set_option maxRecDepth 100000 in
theorem k_ll {X : Nat × Nat × (Nat → Int32)} {n : Int} {T : Int → Int} {h : HS} {t : TS} {ry ft im : Int → Int} {en br hl : Int} {M : MS} {tb : Int → Int → Int} {l : Int} (hR : repC n T tb) (hll : m_R l) (him : rayOk n im) : m_Run X 21 [.inr (.inl 9), .inr (.inl 1), .inl l] (mW (n, T, h, t, (ry, ft, im, en, br, hl)) M) (m_V (bI (ldX n tb im l)) (mW (n, T, h, t, (ry, ft, im, en, br, hl)) M)) := by
  have hn := hR.1
  have hln := okN_lo hn
  have hq := sq_b hn
  have hnp : NP n = n * n + n + 1 := rfl
  have g1 := rgR_in hn him (ptC_in (l := l) (i := 0) hn hR.tb)
  have g2 := rgR_in hn him (ptC_in (l := l) (i := 1) hn hR.tb)
  show m_Sem X 21 (0, [some (.inr (.inl 9)), some (.inr (.inl 1)), some (.inl l), none, none, none, none], [], mW (n, T, h, t, (ry, ft, im, en, br, hl)) M, 0, 0) _
  refine m_run 4 (ps' := (4, [some (.inr (.inl 9)), some (.inr (.inl 1)), some (.inl l), none, none, none, none], [.inl 0, .inl l, .inr (.inl 1), .inr (.inl 9)], mW (n, T, h, t, (ry, ft, im, en, br, hl)) M, 0, 0)) rfl ?_
  refine m_callVF [.inl l, .inl 0] [.inr (.inl 9)] rfl rfl ⟨_, rfl, rfl⟩ rfl rfl (k_pt (l := l) (i := 0) hR hll ⟨by omega, by omega⟩) ?_
  have zt1 := ptC_in (l := l) (i := 0) hn hR.tb
  unfold NP at zt1
  show m_Sem X 21 (7, [some (.inr (.inl 9)), some (.inr (.inl 1)), some (.inl l), none, none, none, none], [.inl (ptC n tb l 0), .inr (.inl 9)], mW (n, T, h, t, (ry, ft, im, en, br, hl)) M, 0, 0) _
  refine m_callVF [.inl (ptC n tb l 0)] [] rfl rfl ⟨_, rfl, rfl⟩ rfl rfl (k_img (p := (ptC n tb l 0)) ⟨by omega, by omega⟩) ?_
  show m_Sem X 21 (10, [some (.inr (.inl 9)), some (.inr (.inl 1)), some (.inl l), none, none, none, none], [.inl (rgS im (ptC n tb l 0))], mW (n, T, h, t, (ry, ft, im, en, br, hl)) M, 0, 0) _
  refine m_run 5 (ps' := (15, [some (.inr (.inl 9)), some (.inr (.inl 1)), some (.inl l), some (.inl (rgS im (ptC n tb l 0))), none, none, none], [.inl 1, .inl l, .inr (.inl 1), .inr (.inl 9)], mW (n, T, h, t, (ry, ft, im, en, br, hl)) M, 0, 0)) rfl ?_
  refine m_callVF [.inl l, .inl 1] [.inr (.inl 9)] rfl rfl ⟨_, rfl, rfl⟩ rfl rfl (k_pt (l := l) (i := 1) hR hll ⟨by omega, by omega⟩) ?_
  have zt2 := ptC_in (l := l) (i := 1) hn hR.tb
  unfold NP at zt2
  show m_Sem X 21 (18, [some (.inr (.inl 9)), some (.inr (.inl 1)), some (.inl l), some (.inl (rgS im (ptC n tb l 0))), none, none, none], [.inl (ptC n tb l 1), .inr (.inl 9)], mW (n, T, h, t, (ry, ft, im, en, br, hl)) M, 0, 0) _
  refine m_callVF [.inl (ptC n tb l 1)] [] rfl rfl ⟨_, rfl, rfl⟩ rfl rfl (k_img (p := (ptC n tb l 1)) ⟨by omega, by omega⟩) ?_
  show m_Sem X 21 (21, [some (.inr (.inl 9)), some (.inr (.inl 1)), some (.inl l), some (.inl (rgS im (ptC n tb l 0))), none, none, none], [.inl (rgS im (ptC n tb l 1))], mW (n, T, h, t, (ry, ft, im, en, br, hl)) M, 0, 0) _
  refine m_run 4 (ps' := (27, [some (.inr (.inl 9)), some (.inr (.inl 1)), some (.inl l), some (.inl (rgS im (ptC n tb l 0))), some (.inl (rgS im (ptC n tb l 1))), none, none], [.inl (rgS im (ptC n tb l 1)), .inl (rgS im (ptC n tb l 0)), .inr (.inl 1)], mW (n, T, h, t, (ry, ft, im, en, br, hl)) M, 0, 0)) rfl ?_
  refine m_callVF [.inl (rgS im (ptC n tb l 0)), .inl (rgS im (ptC n tb l 1))] [] rfl rfl ⟨_, rfl, rfl⟩ rfl rfl (k_ln (p := (rgS im (ptC n tb l 0))) (q := (rgS im (ptC n tb l 1))) hR ⟨by omega, by omega⟩ ⟨by omega, by omega⟩) ?_
  have zt3 := lnC_in (n := n) (tb := tb) (p := (rgS im (ptC n tb l 0))) (q := (rgS im (ptC n tb l 1)))
  unfold NP at zt3
  show m_Sem X 21 (30, [some (.inr (.inl 9)), some (.inr (.inl 1)), some (.inl l), some (.inl (rgS im (ptC n tb l 0))), some (.inl (rgS im (ptC n tb l 1))), none, none], [.inl (lnC n tb (rgS im (ptC n tb l 0)) (rgS im (ptC n tb l 1)))], mW (n, T, h, t, (ry, ft, im, en, br, hl)) M, 0, 0) _
  refine m_run 3 (ps' := (35, [some (.inr (.inl 9)), some (.inr (.inl 1)), some (.inl l), some (.inl (rgS im (ptC n tb l 0))), some (.inl (rgS im (ptC n tb l 1))), some (.inl (lnC n tb (rgS im (ptC n tb l 0)) (rgS im (ptC n tb l 1)))), some (.inl 2)], [], mW (n, T, h, t, (ry, ft, im, en, br, hl)) M, 0, 0)) rfl ?_
  refine m_weak [some (.inr (.inl 9)), some (.inr (.inl 1)), some (.inl l), none, none, some (.inl (lnC n tb (rgS im (ptC n tb l 0)) (rgS im (ptC n tb l 1)))), some (.inl 2)] ⟨rfl, ⟨rfl, ⟨rfl, ⟨rfl, ⟨rfl, trivial⟩⟩⟩⟩⟩ ?_
  exact l_ll hR hll him 2 (by omega) (by omega) rfl
def eqN (n : Int) (f g : Int → Int) : Prop := ∀ p, 0 ≤ p → p < NP n → f p = g p
def inZ (n p : Int) : Prop := p = -1 ∨ (0 ≤ p ∧ p < NP n)
theorem rg_congr {n p : Int} {f g : Int → Int} (hn : okN n) (h : eqN n f g) (hp : inZ n p) : rgS f p = rgS g p := by
  have hq := sq_b hn
  have hl := okN_lo hn
  have hnp : NP n = n * n + n + 1 := rfl
  rcases hp with rfl | ⟨h1, h2⟩
  · rfl
  · rw [rgS_at h1 (by omega), rgS_at h1 (by omega), h p h1 h2]
theorem lo_congr {n lo : Int} {f g : Int → Int} (hn : okN n) (h : eqN n f g) : loS n f lo = loS n g lo := by
  have hq := sq_b hn
  have hl := okN_lo hn
  have hnp : NP n = n * n + n + 1 := rfl
  exact fst_congr _ _ (fun j h1 h2 => by rw [h j h1 (by omega)])
theorem ld_congr {n l : Int} {tb : Int → Int → Int} {f g : Int → Int} (hn : okN n) (ht : tbR n tb) (h : eqN n f g) : ldX n tb f l = ldX n tb g l := by
  unfold ldX
  have e : ∀ i, rgS f (ptC n tb l i) = rgS g (ptC n tb l i) := fun i => rg_congr hn h (ptC_in hn ht)
  simp only [e]
/-- where a map that is known by the image z of the base leads a point -/
def imgX (n : Int) (tb : Int → Int → Int) (ry ft : Int → Int) (br hl z p : Int) : Int :=
  if ry p = -1 then p else if ry p = br then mtC n tb (ry p) (lnC n tb (ft p) (rgS (fun q => mtC n tb (ry q) (lnC n tb (ft q) z)) hl)) else mtC n tb (ry p) (lnC n tb (ft p) z)
def mirX (n : Int) (tb : Int → Int → Int) (ry ft : Int → Int) (br hl z : Int) : Bool := allF (fun l => ldX n tb (imgX n tb ry ft br hl z) l) (NP n).toNat 0
theorem img_congr {n br hl z : Int} {tb : Int → Int → Int} {ry ry' ft ft' : Int → Int} (hn : okN n) (h1 : eqN n ry ry') (h2 : eqN n ft ft') (hh : inZ n hl) : eqN n (imgX n tb ry ft br hl z) (imgX n tb ry' ft' br hl z) := by
  intro p g1 g2
  unfold imgX
  rw [h1 p g1 g2, h2 p g1 g2, rg_congr (f := fun q => mtC n tb (ry q) (lnC n tb (ft q) z)) (g := fun q => mtC n tb (ry' q) (lnC n tb (ft' q) z)) hn (fun q g3 g4 => by dsimp only; rw [h1 q g3 g4, h2 q g3 g4]) hh]
theorem mir_congr {n br hl z : Int} {tb : Int → Int → Int} {ry ry' ft ft' : Int → Int} (hn : okN n) (ht : tbR n tb) (h1 : eqN n ry ry') (h2 : eqN n ft ft') (hh : inZ n hl) : mirX n tb ry ft br hl z = mirX n tb ry' ft' br hl z := by
  unfold mirX
  exact all_congr _ _ (fun j _ _ => ld_congr hn ht (img_congr hn h1 h2 hh))
def hlOk (n : Int) (ry : Int → Int) (br hl : Int) : Prop := hl = -1 ∨ ((0 ≤ hl ∧ hl < NP n) ∧ ry hl ≠ -1 ∧ ry hl ≠ br)
def fixOk (n : Int) (ry im : Int → Int) : Prop := ∀ p, 0 ≤ p → p < NP n → ry p = -1 → im p = p
theorem lo_ok {n br : Int} {ry : Int → Int} (hn : okN n) : hlOk n ry br (loS n ry br) := by
  have hq := sq_b hn
  have hl := okN_lo hn
  have hnp : NP n = n * n + n + 1 := rfl
  rcases fst_in (p := fun p => decide (ry p ≠ -1) && decide (ry p ≠ br)) (NP n).toNat 0 with h | ⟨h1, h2, h3⟩
  · exact Or.inl h
  · simp only [Bool.and_eq_true, decide_eq_true_eq] at h3
    exact Or.inr ⟨⟨h1, by unfold loS; omega⟩, h3.1, h3.2⟩
theorem lead2 {n br hl z : Int} {tb : Int → Int → Int} {ry ft im0 im1 im2 : Int → Int} (hn : okN n) (hh : hlOk n ry br hl) (hf : fixOk n ry im0) (h1 : ∀ p, 0 ≤ p → p < NP n → im1 p = leadX n tb ry ft im0 br z false p) (h2 : ∀ p, 0 ≤ p → p < NP n → im2 p = leadX n tb ry ft im1 br (rgS im1 hl) true p) : eqN n im2 (imgX n tb ry ft br hl z) ∧ fixOk n ry im2 := by
  have hq := sq_b hn
  have hl' := okN_lo hn
  have hnp : NP n = n * n + n + 1 := rfl
  have e : rgS im1 hl = rgS (fun q => mtC n tb (ry q) (lnC n tb (ft q) z)) hl := by
    rcases hh with rfl | ⟨⟨g1, g2⟩, g3, g4⟩
    · rfl
    · rw [rgS_at g1 (by omega), rgS_at g1 (by omega), h1 hl g1 g2]
      unfold leadX
      rw [if_neg g3, if_pos (decide_eq_false g4)]
  have key : eqN n im2 (imgX n tb ry ft br hl z) := by
    intro p g1 g2
    rw [h2 p g1 g2, e]
    unfold leadX imgX
    by_cases c1 : ry p = -1
    · rw [if_pos c1, if_pos c1, h1 p g1 g2]
      unfold leadX
      rw [if_pos c1]
      exact hf p g1 g2 c1
    · rw [if_neg c1, if_neg c1]
      by_cases c2 : ry p = br
      · rw [if_pos c2, if_pos (decide_eq_true c2)]
      · rw [if_neg c2, if_neg (by rw [decide_eq_false c2]; decide), h1 p g1 g2]
        unfold leadX
        rw [if_neg c1, if_pos (decide_eq_false c2)]
  refine ⟨key, fun p g1 g2 g3 => ?_⟩
  rw [key p g1 g2]
  unfold imgX
  rw [if_pos g3]
theorem img_ok {n br hl z : Int} {tb : Int → Int → Int} {ry ft : Int → Int} : rayOk n (imgX n tb ry ft br hl z) := by
  intro p g1 g2
  unfold imgX
  split
  · exact Or.inr ⟨g1, g2⟩
  · split
    · exact mtC_in
    · exact mtC_in
theorem ok_congr {n : Int} {f g : Int → Int} (h : eqN n f g) (hg : rayOk n g) : rayOk n f := fun p g1 g2 => by rw [h p g1 g2]; exact hg p g1 g2
set_option maxHeartbeats 4000000 in
set_option maxRecDepth 100000 in
theorem l_mi {X : Nat × Nat × (Nat → Int32)} {n : Int} {T : Int → Int} {h : HS} {t : TS} {ry ft im : Int → Int} {br hl z : Int} {M : MS} {tb : Int → Int → Int} {o : Bool} (hR : repC n T tb) (hbr : inZ n br) (hh : hlOk n ry br hl) (hry : rayOk n ry) (hft : rayOk n ft) (he : eqN n im (imgX n tb ry ft br hl z)) (hfx : fixOk n ry im) : ∀ iv : Int, 0 ≤ iv → iv ≤ (NP n) → ∀ (ho : allF (fun l => ldX n tb im l) (NP n - iv).toNat iv = o), m_Sem X 19 (23, [some (.inr (.inl 9)), some (.inr (.inl 1)), none, some (.inl iv)], [], mW (n, T, h, t, (ry, ft, im, (NP n), br, hl)) M, 0, 0) (fun r w => r = some (.inl (bI o)) ∧ ∃ im3, w = mW (n, T, h, t, (ry, ft, im3, NP n, br, hl)) M ∧ fixOk n ry im3) := by
  have hn := hR.1
  have hln := okN_lo hn
  have hq := sq_b hn
  have hnp : NP n = n * n + n + 1 := rfl
  refine m_down 0 (NP n) ?_ ?_
  · intro ho
    show m_Sem X 19 (23, [some (.inr (.inl 9)), some (.inr (.inl 1)), none, some (.inl (NP n))], [], mW (n, T, h, t, (ry, ft, im, (NP n), br, hl)) M, 0, 0) _
    refine m_run 3 (ps' := (28, [some (.inr (.inl 9)), some (.inr (.inl 1)), none, some (.inl (NP n))], [.inl (NP n), .inl (NP n)], mW (n, T, h, t, (ry, ft, im, (NP n), br, hl)) M, 0, 0)) rfl ?_
    refine m_icmp rfl ⟨by omega, by omega⟩ ⟨by omega, by omega⟩ (fun (zc1 : (NP n) ≤ (NP n)) => ?_) (fun (zc1 : ¬ (NP n) ≤ (NP n)) => absurd zc1 (not_not_intro (by omega)))
    refine m_run 1 (ps' := (49, [some (.inr (.inl 9)), some (.inr (.inl 1)), none, some (.inl (NP n))], [.inl 1], mW (n, T, h, t, (ry, ft, im, (NP n), br, hl)) M, 0, 0)) rfl ?_
    exact m_ret1 rfl (Or.inr ⟨rfl, Or.inr rfl⟩) rfl (by rw [all_end] at ho; subst ho; exact ⟨rfl, im, rfl, hfx⟩)
  · intro iv hi1 hi2 ih ho
    refine m_run 3 (ps' := (28, [some (.inr (.inl 9)), some (.inr (.inl 1)), none, some (.inl iv)], [.inl (NP n), .inl iv], mW (n, T, h, t, (ry, ft, im, (NP n), br, hl)) M, 0, 0)) rfl ?_
    refine m_icmp rfl ⟨by omega, by omega⟩ ⟨by omega, by omega⟩ (fun (zc1 : (NP n) ≤ iv) => absurd zc1 (by omega)) (fun (zc1 : ¬ (NP n) ≤ iv) => ?_)
    refine m_run 3 (ps' := (34, [some (.inr (.inl 9)), some (.inr (.inl 1)), none, some (.inl iv)], [.inl iv, .inr (.inl 1), .inr (.inl 9)], mW (n, T, h, t, (ry, ft, im, (NP n), br, hl)) M, 0, 0)) rfl ?_
    refine m_callVF [.inr (.inl 1), .inl iv] [] rfl rfl ⟨_, rfl, rfl⟩ rfl rfl (k_ll (l := iv) (im := im) hR ⟨by omega, by omega⟩ (ok_congr he img_ok)) ?_
    show m_Sem X 19 (37, [some (.inr (.inl 9)), some (.inr (.inl 1)), none, some (.inl iv)], [.inl (bI (ldX n tb im iv))], mW (n, T, h, t, (ry, ft, im, (NP n), br, hl)) M, 0, 0) _
    refine m_if rfl (bI_R (ldX n tb im iv)) (fun (zc2 : ¬ (bI (ldX n tb im iv)) = 0) => ?_) (fun (zc2 : ¬ ¬ (bI (ldX n tb im iv)) = 0) => ?_)
    · replace zc2 : (ldX n tb im iv) = true := bI_n0.mp zc2
      refine m_run 2 (ps' := (23, [some (.inr (.inl 9)), some (.inr (.inl 1)), none, some (.inl (iv + 1))], [], mW (n, T, h, t, (ry, ft, im, (NP n), br, hl)) M, 0, 0)) rfl ?_
      refine m_weak [some (.inr (.inl 9)), some (.inr (.inl 1)), none, some (.inl (iv + 1))] ⟨rfl, ⟨rfl, ⟨rfl, trivial⟩⟩⟩ ?_
      rw [all_t hi2 zc2] at ho
      exact ih ho
    · replace zc2 : (ldX n tb im iv) = false := bI_e0.mp (Decidable.not_not.mp zc2)
      refine m_run 1 (ps' := (41, [some (.inr (.inl 9)), some (.inr (.inl 1)), none, some (.inl iv)], [.inl 0], mW (n, T, h, t, (ry, ft, im, (NP n), br, hl)) M, 0, 0)) rfl ?_
      exact m_ret1 rfl (Or.inr ⟨rfl, Or.inl rfl⟩) rfl (by rw [all_f hi2 zc2] at ho; subst ho; exact ⟨rfl, im, rfl, hfx⟩)
theorem rgH' {n br hl z : Int} {tb : Int → Int → Int} {ry ft im0 im1 : Int → Int} (hn : okN n) (hh : hlOk n ry br hl) (h1 : ∀ p, 0 ≤ p → p < NP n → im1 p = leadX n tb ry ft im0 br z false p) : rgS im1 hl = -1 ∨ (0 ≤ rgS im1 hl ∧ rgS im1 hl < NP n) := by
  have hq := sq_b hn
  have hl' := okN_lo hn
  have hnp : NP n = n * n + n + 1 := rfl
  rcases hh with rfl | ⟨⟨g1, g2⟩, g3, g4⟩
  · exact Or.inl rfl
  · rw [rgS_at g1 (by omega), h1 hl g1 g2]
    unfold leadX
    rw [if_neg g3, if_pos (decide_eq_false g4)]
    exact mtC_in
theorem hlOk.z {n br hl : Int} {ry : Int → Int} (h : hlOk n ry br hl) : hl = -1 ∨ (0 ≤ hl ∧ hl < NP n) := h.imp id (fun h => h.1)
set_option maxHeartbeats 4000000 in
set_option maxRecDepth 100000 in
theorem k_mi {X : Nat × Nat × (Nat → Int32)} {n : Int} {T : Int → Int} {h : HS} {t : TS} {ry ft im : Int → Int} {br hl z : Int} {M : MS} {tb : Int → Int → Int} (hR : repC n T tb) (hbr : inZ n br) (hh : hlOk n ry br hl) (hry : rayOk n ry) (hft : rayOk n ft) (hz : m_R z) (hf : fixOk n ry im) : m_Run X 19 [.inr (.inl 9), .inr (.inl 1), .inl z] (mW (n, T, h, t, (ry, ft, im, (NP n), br, hl)) M) (fun r w => r = some (.inl (bI (mirX n tb ry ft br hl z))) ∧ ∃ im3, w = mW (n, T, h, t, (ry, ft, im3, NP n, br, hl)) M ∧ fixOk n ry im3) := by
  have hn := hR.1
  have hln := okN_lo hn
  have hq := sq_b hn
  have hnp : NP n = n * n + n + 1 := rfl
  have hhz := hh.z
  have rgH := fun {im1 : Int → Int} => @rgH' n br hl z tb ry ft im im1 hn hh
  unfold inZ at hbr
  show m_Sem X 19 (0, [some (.inr (.inl 9)), some (.inr (.inl 1)), some (.inl z), none], [], mW (n, T, h, t, (ry, ft, im, (NP n), br, hl)) M, 0, 0) _
  refine m_run 4 (ps' := (4, [some (.inr (.inl 9)), some (.inr (.inl 1)), some (.inl z), none], [.inl z, .inl 0, .inr (.inl 1), .inr (.inl 9)], mW (n, T, h, t, (ry, ft, im, (NP n), br, hl)) M, 0, 0)) rfl ?_
  refine m_callV [.inr (.inl 1), .inl 0, .inl z] [] rfl rfl ⟨_, rfl, rfl⟩ rfl rfl (k_ld0 (sf := z) hR hz hbr hry hft) (fun r_ w_ hq_ _ => ?_)
  obtain ⟨rfl, im1, rfl, hl0⟩ := hq_
  have hrg : rgS im1 hl = -1 ∨ (0 ≤ rgS im1 hl ∧ rgS im1 hl < NP n) := rgH hl0
  show m_Sem X 19 (7, [some (.inr (.inl 9)), some (.inr (.inl 1)), some (.inl z), none], [], mW (n, T, h, t, (ry, ft, im1, NP n, br, hl)) M, 0, 0) _
  refine m_run 6 (ps' := (15, [some (.inr (.inl 9)), some (.inr (.inl 1)), some (.inl z), none], [.inl hl, .inr (.inl 9), .inl 1, .inr (.inl 1), .inr (.inl 9)], mW (n, T, h, t, (ry, ft, im1, NP n, br, hl)) M, 0, 0)) rfl ?_
  refine m_callVF [.inl hl] [.inl 1, .inr (.inl 1), .inr (.inl 9)] rfl rfl ⟨_, rfl, rfl⟩ rfl rfl (k_img (p := hl) ⟨by omega, by omega⟩) ?_
  show m_Sem X 19 (18, [some (.inr (.inl 9)), some (.inr (.inl 1)), some (.inl z), none], [.inl (rgS im1 hl), .inl 1, .inr (.inl 1), .inr (.inl 9)], mW (n, T, h, t, (ry, ft, im1, NP n, br, hl)) M, 0, 0) _
  refine m_callV [.inr (.inl 1), .inl 1, .inl (rgS im1 hl)] [] rfl rfl ⟨_, rfl, rfl⟩ rfl rfl (k_ld1 (sf := (rgS im1 hl)) hR ⟨by omega, by omega⟩ hbr hry hft) (fun r_ w_ hq_ _ => ?_)
  obtain ⟨rfl, im2, rfl, hl1⟩ := hq_
  show m_Sem X 19 (21, [some (.inr (.inl 9)), some (.inr (.inl 1)), some (.inl z), none], [], mW (n, T, h, t, (ry, ft, im2, NP n, br, hl)) M, 0, 0) _
  refine m_run 2 (ps' := (23, [some (.inr (.inl 9)), some (.inr (.inl 1)), some (.inl z), some (.inl 0)], [], mW (n, T, h, t, (ry, ft, im2, NP n, br, hl)) M, 0, 0)) rfl ?_
  obtain ⟨he, hfx⟩ := lead2 hn hh hf hl0 hl1
  refine m_weak [some (.inr (.inl 9)), some (.inr (.inl 1)), none, some (.inl 0)] ⟨rfl, ⟨rfl, ⟨rfl, trivial⟩⟩⟩ ?_
  have h0 := l_mi (X := X) (T := T) (h := h) (t := t) (M := M) (z := z) hR hbr hh hry hft he hfx 0 (by omega) (by omega) rfl
  rw [z_sub] at h0
  have em : allF (fun l => ldX n tb im2 l) (NP n).toNat 0 = mirX n tb ry ft br hl z := by
    unfold mirX
    exact all_congr _ _ (fun j _ _ => ld_congr hn hR.tb he)
  rw [em] at h0
  exact h0
def talX (n : Int) (tb : Int → Int → Int) (ry ft : Int → Int) (br hl : Int) (i : Int) : Int := if rgS ry (ptC n tb br i) = -1 then 0 else if mirX n tb ry ft br hl (ptC n tb br i) = true then 1 else 0
def talS (n : Int) (tb : Int → Int → Int) (ax ce : Int) : Int :=
  let ry := rayS n tb ax ce
  let ba := loS n ry (-1)
  let br := rgS ry ba
  let hl := loS n ry br
  sumF (talX n tb ry (footX n tb ry ax ba br hl) br hl) (n + 1).toNat 0
set_option maxHeartbeats 4000000 in
set_option maxRecDepth 100000 in
theorem l_tal {X : Nat × Nat × (Nat → Int32)} {n : Int} {T : Int → Int} {h : HS} {t : TS} {ry ft : Int → Int} {br hl v : Int} {M : MS} {tb : Int → Int → Int} (hR : repC n T tb) (hbr : inZ n br) (hh : hlOk n ry br hl) (hry : rayOk n ry) (hft : rayOk n ft) : ∀ iv : Int, 0 ≤ iv → iv ≤ n + 1 → ∀ (im : Int → Int) (u : Int) (hf : fixOk n ry im) (hu : u + sumF (talX n tb ry ft br hl) (n + 1 - iv).toNat iv = v), m_Sem X 13 (19, [some (.inr (.inl 9)), some (.inr (.inl 1)), none, none, some (.inl u), some (.inl iv), none], [], mW (n, T, h, t, (ry, ft, im, (NP n), br, hl)) M, 0, 0) (fun r w => r = some (.inl v) ∧ ∃ im3, w = mW (n, T, h, t, (ry, ft, im3, NP n, br, hl)) M) := by
  have hn := hR.1
  have hln := okN_lo hn
  have hq := sq_b hn
  have hnp : NP n = n * n + n + 1 := rfl
  refine m_down 0 (n + 1) ?_ ?_
  · intro im u hf hu
    rw [sum_end] at hu
    have hu : u = v := by omega
    subst hu
    show m_Sem X 13 (19, [some (.inr (.inl 9)), some (.inr (.inl 1)), none, none, some (.inl u), some (.inl (n + 1)), none], [], mW (n, T, h, t, (ry, ft, im, (NP n), br, hl)) M, 0, 0) _
    refine m_run 4 (ps' := (28, [some (.inr (.inl 9)), some (.inr (.inl 1)), none, none, some (.inl u), some (.inl (n + 1)), none], [.inl n, .inl (n + 1)], mW (n, T, h, t, (ry, ft, im, (NP n), br, hl)) M, 0, 0)) rfl ?_
    refine m_icmp rfl ⟨by omega, by omega⟩ ⟨by omega, by omega⟩ (fun (zc1 : n < n + 1) => ?_) (fun (zc1 : ¬ n < n + 1) => absurd zc1 (not_not_intro (by omega)))
    refine m_run 1 (ps' := (74, [some (.inr (.inl 9)), some (.inr (.inl 1)), none, none, some (.inl u), some (.inl (n + 1)), none], [.inl u], mW (n, T, h, t, (ry, ft, im, (NP n), br, hl)) M, 0, 0)) rfl ?_
    exact m_ret1 rfl (Or.inl rfl) rfl (⟨rfl, im, rfl⟩)
  · intro iv hi1 hi2 ih im u hf hu
    unfold inZ at hbr
    rw [sum_step hi2] at hu
    have hpz := ptC_in (l := br) (i := iv) hn hR.tb
    have hrz := rgR_in hn hry hpz
    refine m_run 4 (ps' := (28, [some (.inr (.inl 9)), some (.inr (.inl 1)), none, none, some (.inl u), some (.inl iv), none], [.inl n, .inl iv], mW (n, T, h, t, (ry, ft, im, (NP n), br, hl)) M, 0, 0)) rfl ?_
    refine m_icmp rfl ⟨by omega, by omega⟩ ⟨by omega, by omega⟩ (fun (zc1 : n < iv) => absurd zc1 (by omega)) (fun (zc1 : ¬ n < iv) => ?_)
    refine m_run 4 (ps' := (38, [some (.inr (.inl 9)), some (.inr (.inl 1)), none, none, some (.inl u), some (.inl iv), none], [.inl iv, .inl br, .inr (.inl 1)], mW (n, T, h, t, (ry, ft, im, (NP n), br, hl)) M, 0, 0)) rfl ?_
    refine m_callVF [.inl br, .inl iv] [] rfl rfl ⟨_, rfl, rfl⟩ rfl rfl (k_pt (l := br) (i := iv) hR ⟨by omega, by omega⟩ ⟨by omega, by omega⟩) ?_
    have zt1 := ptC_in (l := br) (i := iv) hn hR.tb
    unfold NP at zt1
    show m_Sem X 13 (41, [some (.inr (.inl 9)), some (.inr (.inl 1)), none, none, some (.inl u), some (.inl iv), none], [.inl (ptC n tb br iv)], mW (n, T, h, t, (ry, ft, im, (NP n), br, hl)) M, 0, 0) _
    refine m_run 3 (ps' := (46, [some (.inr (.inl 9)), some (.inr (.inl 1)), none, none, some (.inl u), some (.inl iv), some (.inl (ptC n tb br iv))], [.inl (ptC n tb br iv), .inr (.inl 9)], mW (n, T, h, t, (ry, ft, im, (NP n), br, hl)) M, 0, 0)) rfl ?_
    refine m_callVF [.inl (ptC n tb br iv)] [] rfl rfl ⟨_, rfl, rfl⟩ rfl rfl (k_ray (p := (ptC n tb br iv)) ⟨by omega, by omega⟩) ?_
    show m_Sem X 13 (49, [some (.inr (.inl 9)), some (.inr (.inl 1)), none, none, some (.inl u), some (.inl iv), some (.inl (ptC n tb br iv))], [.inl (rgS ry (ptC n tb br iv))], mW (n, T, h, t, (ry, ft, im, (NP n), br, hl)) M, 0, 0) _
    refine m_run 1 (ps' := (50, [some (.inr (.inl 9)), some (.inr (.inl 1)), none, none, some (.inl u), some (.inl iv), some (.inl (ptC n tb br iv))], [.inl (-1), .inl (rgS ry (ptC n tb br iv))], mW (n, T, h, t, (ry, ft, im, (NP n), br, hl)) M, 0, 0)) rfl ?_
    refine m_icmp rfl ⟨by omega, by omega⟩ ⟨by omega, by omega⟩ (fun (zc2 : (rgS ry (ptC n tb br iv)) = (-1)) => ?_) (fun (zc2 : ¬ (rgS ry (ptC n tb br iv)) = (-1)) => ?_)
    · refine m_run 2 (ps' := (19, [some (.inr (.inl 9)), some (.inr (.inl 1)), none, none, some (.inl u), some (.inl (iv + 1)), some (.inl (ptC n tb br iv))], [], mW (n, T, h, t, (ry, ft, im, (NP n), br, hl)) M, 0, 0)) rfl ?_
      refine m_weak [some (.inr (.inl 9)), some (.inr (.inl 1)), none, none, some (.inl u), some (.inl (iv + 1)), none] ⟨rfl, ⟨rfl, ⟨rfl, ⟨rfl, trivial⟩⟩⟩⟩ ?_
      have ht9 : talX n tb ry ft br hl iv = 0 := by unfold talX; simp [*]
      rw [ht9] at hu
      exact ih _ _ hf (by rw [← hu]; omega)
    · refine m_run 3 (ps' := (57, [some (.inr (.inl 9)), some (.inr (.inl 1)), none, none, some (.inl u), some (.inl iv), some (.inl (ptC n tb br iv))], [.inl (ptC n tb br iv), .inr (.inl 1), .inr (.inl 9)], mW (n, T, h, t, (ry, ft, im, (NP n), br, hl)) M, 0, 0)) rfl ?_
      refine m_callV [.inr (.inl 1), .inl (ptC n tb br iv)] [] rfl rfl ⟨_, rfl, rfl⟩ rfl rfl (k_mi (z := (ptC n tb br iv)) hR hbr hh hry hft ⟨by omega, by omega⟩ hf) (fun r_ w_ hq_ _ => ?_)
      obtain ⟨rfl, im3, rfl, hf3⟩ := hq_
      show m_Sem X 13 (60, [some (.inr (.inl 9)), some (.inr (.inl 1)), none, none, some (.inl u), some (.inl iv), some (.inl (ptC n tb br iv))], [.inl (bI (mirX n tb ry ft br hl (ptC n tb br iv)))], mW (n, T, h, t, (ry, ft, im3, NP n, br, hl)) M, 0, 0) _
      refine m_if rfl (bI_R (mirX n tb ry ft br hl (ptC n tb br iv))) (fun (zc3 : (bI (mirX n tb ry ft br hl (ptC n tb br iv))) = 0) => ?_) (fun (zc3 : ¬ (bI (mirX n tb ry ft br hl (ptC n tb br iv))) = 0) => ?_)
      · replace zc3 : (mirX n tb ry ft br hl (ptC n tb br iv)) = false := bI_e0.mp zc3
        refine m_run 2 (ps' := (19, [some (.inr (.inl 9)), some (.inr (.inl 1)), none, none, some (.inl u), some (.inl (iv + 1)), some (.inl (ptC n tb br iv))], [], mW (n, T, h, t, (ry, ft, im3, NP n, br, hl)) M, 0, 0)) rfl ?_
        refine m_weak [some (.inr (.inl 9)), some (.inr (.inl 1)), none, none, some (.inl u), some (.inl (iv + 1)), none] ⟨rfl, ⟨rfl, ⟨rfl, ⟨rfl, trivial⟩⟩⟩⟩ ?_
        have ht9 : talX n tb ry ft br hl iv = 0 := by unfold talX; simp [*]
        rw [ht9] at hu
        exact ih _ _ hf3 (by rw [← hu]; omega)
      · replace zc3 : (mirX n tb ry ft br hl (ptC n tb br iv)) = true := bI_n0.mp zc3
        refine m_run 3 (ps' := (19, [some (.inr (.inl 9)), some (.inr (.inl 1)), none, none, some (.inl (u + 1)), some (.inl (iv + 1)), some (.inl (ptC n tb br iv))], [], mW (n, T, h, t, (ry, ft, im3, NP n, br, hl)) M, 0, 0)) rfl ?_
        refine m_weak [some (.inr (.inl 9)), some (.inr (.inl 1)), none, none, some (.inl (u + 1)), some (.inl (iv + 1)), none] ⟨rfl, ⟨rfl, ⟨rfl, ⟨rfl, trivial⟩⟩⟩⟩ ?_
        have ht9 : talX n tb ry ft br hl iv = 1 := by unfold talX; simp [*]
        rw [ht9] at hu
        exact ih _ _ hf3 (by rw [← hu]; omega)
set_option maxHeartbeats 4000000 in
set_option maxRecDepth 100000 in
theorem k_tal {X : Nat × Nat × (Nat → Int32)} {n : Int} {T : Int → Int} {h : HS} {t : TS} {ry ft im : Int → Int} {en br hl : Int} {M : MS} {tb : Int → Int → Int} {ax ce : Int} (hR : repC n T tb) (hax : m_R ax) (hce : m_R ce) : m_Run X 13 [.inr (.inl 9), .inr (.inl 1), .inl ax, .inl ce] (mW (n, T, h, t, (ry, ft, im, en, br, hl)) M) (fun r w => r = some (.inl (talS n tb ax ce)) ∧ ∃ x2, w = mW (n, T, h, t, x2) M) := by
  have hn := hR.1
  have hln := okN_lo hn
  have hq := sq_b hn
  have hnp : NP n = n * n + n + 1 := rfl
  show m_Sem X 13 (0, [some (.inr (.inl 9)), some (.inr (.inl 1)), some (.inl ax), some (.inl ce), none, none, none], [], mW (n, T, h, t, (ry, ft, im, en, br, hl)) M, 0, 0) _
  refine m_run 4 (ps' := (4, [some (.inr (.inl 9)), some (.inr (.inl 1)), some (.inl ax), some (.inl ce), none, none, none], [.inl ce, .inl ax, .inr (.inl 1), .inr (.inl 9)], mW (n, T, h, t, (ry, ft, im, en, br, hl)) M, 0, 0)) rfl ?_
  refine m_callV [.inr (.inl 1), .inl ax, .inl ce] [] rfl rfl ⟨_, rfl, rfl⟩ rfl rfl (k_lr hR hax hce) (fun r_ w_ hq_ _ => ?_)
  obtain ⟨rfl, ry2, im2, rfl, hlr⟩ := hq_
  show m_Sem X 13 (7, [some (.inr (.inl 9)), some (.inr (.inl 1)), some (.inl ax), some (.inl ce), none, none, none], [], mW (n, T, h, t, (ry2, ft, im2, NP n, br, hl)) M, 0, 0) _
  refine m_run 3 (ps' := (10, [some (.inr (.inl 9)), some (.inr (.inl 1)), some (.inl ax), some (.inl ce), none, none, none], [.inl ax, .inr (.inl 1), .inr (.inl 9)], mW (n, T, h, t, (ry2, ft, im2, NP n, br, hl)) M, 0, 0)) rfl ?_
  have hry : rayOk n ry2 := fun p g1 g2 => by rw [(hlr p g1 g2).1]; exact rayS_in
  refine m_callV [.inr (.inl 1), .inl ax] [] rfl rfl ⟨_, rfl, rfl⟩ rfl rfl (k_lf (ry := ry2) hR hax hry) (fun r_ w_ hq_ _ => ?_)
  obtain ⟨rfl, ft2, rfl, hlf⟩ := hq_
  show m_Sem X 13 (13, [some (.inr (.inl 9)), some (.inr (.inl 1)), some (.inl ax), some (.inl ce), none, none, none], [], mW (n, T, h, t, (ry2, ft2, im2, NP n, rgS ry2 (loS n ry2 (-1)), loS n ry2 (rgS ry2 (loS n ry2 (-1))))) M, 0, 0) _
  refine m_run 4 (ps' := (19, [some (.inr (.inl 9)), some (.inr (.inl 1)), some (.inl ax), some (.inl ce), some (.inl 0), some (.inl 0), none], [], mW (n, T, h, t, (ry2, ft2, im2, NP n, rgS ry2 (loS n ry2 (-1)), loS n ry2 (rgS ry2 (loS n ry2 (-1))))) M, 0, 0)) rfl ?_
  have hye : eqN n ry2 (rayS n tb ax ce) := fun p g1 g2 => (hlr p g1 g2).1
  have hba : loS n ry2 (-1) = loS n (rayS n tb ax ce) (-1) := lo_congr hn hye
  have hbr9 : rgS ry2 (loS n ry2 (-1)) = rgS (rayS n tb ax ce) (loS n (rayS n tb ax ce) (-1)) := by rw [hba]; exact rg_congr hn hye (loS_in hn)
  have hhl9 : loS n ry2 (rgS ry2 (loS n ry2 (-1))) = loS n (rayS n tb ax ce) (rgS (rayS n tb ax ce) (loS n (rayS n tb ax ce) (-1))) := by rw [hbr9]; exact lo_congr hn hye
  have hfe : eqN n ft2 (footX n tb (rayS n tb ax ce) ax (loS n (rayS n tb ax ce) (-1)) (rgS (rayS n tb ax ce) (loS n (rayS n tb ax ce) (-1))) (loS n (rayS n tb ax ce) (rgS (rayS n tb ax ce) (loS n (rayS n tb ax ce) (-1))))) := fun p g1 g2 => by
    rw [hlf p g1 g2, hhl9, hbr9, hba]
    unfold footX
    rw [hye p g1 g2]
  have hfo : rayOk n ft2 := fun p g1 g2 => by
    rw [hlf p g1 g2]
    unfold footX
    split
    · exact Or.inl rfl
    · exact mtC_in
  have hbz : inZ n (rgS ry2 (loS n ry2 (-1))) := rgR_in hn hry (loS_in hn)
  have hho : hlOk n ry2 (rgS ry2 (loS n ry2 (-1))) (loS n ry2 (rgS ry2 (loS n ry2 (-1)))) := lo_ok hn
  have hsum : 0 + sumF (talX n tb ry2 ft2 (rgS ry2 (loS n ry2 (-1))) (loS n ry2 (rgS ry2 (loS n ry2 (-1))))) (n + 1 - 0).toNat 0 = talS n tb ax ce := by
    rw [Int.zero_add, z_sub]
    unfold talS
    refine sum_congr _ _ (fun j _ _ => ?_)
    unfold talX
    rw [rg_congr hn hye (show inZ n _ from ptC_in hn hR.tb), mir_congr hn hR.tb hye hfe hho.z, hhl9, hbr9]
  refine m_weak [some (.inr (.inl 9)), some (.inr (.inl 1)), none, none, some (.inl 0), some (.inl 0), none] ⟨rfl, ⟨rfl, ⟨rfl, ⟨rfl, trivial⟩⟩⟩⟩ ?_
  refine m_cons (l_tal hR hbz hho hry hfo 0 (by omega) (by omega) im2 0 (fun p g1 g2 _ => (hlr p g1 g2).2) hsum) (fun r w hq9 => ?_)
  obtain ⟨rfl, im3, rfl⟩ := hq9
  exact ⟨rfl, _, rfl⟩
