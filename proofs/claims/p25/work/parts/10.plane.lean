def NP (n : Int) : Int := n * n + n + 1
def tbR (n : Int) (tb : Int → Int → Int) : Prop := ∀ a b, 0 ≤ a → a < n → 0 ≤ b → b < n → 0 ≤ tb a b ∧ tb a b < n
theorem repC.tb {n : Int} {T : Int → Int} {tb : Int → Int → Int} (h : repC n T tb) : tbR n tb := fun a b h1 h2 h3 h4 => (h.2 a b h1 h2 h3 h4).2
theorem sq_b {n : Int} (hn : okN n) : 4 ≤ n * n ∧ n * n ≤ 81 := by
  unfold okN at hn
  rcases hn with rfl | rfl | rfl | rfl | rfl | rfl <;> decide
theorem div_in {n p : Int} (hn : okN n) (h1 : 0 ≤ p) (h2 : p < n * n) : 0 ≤ p / n ∧ p / n < n := by
  have hl := okN_lo hn
  exact ⟨Int.ediv_nonneg h1 (by omega), Int.ediv_lt_of_lt_mul (by omega) h2⟩
theorem mod_in {n p : Int} (hn : okN n) : 0 ≤ p % n ∧ p % n < n := by
  have hl := okN_lo hn
  exact ⟨Int.emod_nonneg p (by omega), Int.emod_lt_of_pos p (by omega)⟩
theorem dmp {n p : Int} (hn : okN n) : ¬ (0 ≤ p ∧ p < n * n) ∨ (0 ≤ p / n ∧ p / n < n) := by
  by_cases h : 0 ≤ p ∧ p < n * n
  · exact Or.inr (div_in hn h.1 h.2)
  · exact Or.inl h
theorem div_np {n p : Int} (hn : okN n) : ¬ (0 ≤ p ∧ p < n * n + n + 1) ∨ (0 ≤ p / n ∧ p / n ≤ n + 1) := by
  have hl := okN_lo hn
  by_cases h : 0 ≤ p ∧ p < n * n + n + 1
  · refine Or.inr ⟨Int.ediv_nonneg h.1 (by omega), ?_⟩
    have h2 : p / n < n + 2 := Int.ediv_lt_of_lt_mul (by omega) (by rw [Int.add_mul]; omega)
    omega
  · exact Or.inl h
theorem fst_in {p : Int → Bool} : ∀ (k : Nat) (i : Int), fstF p k i = -1 ∨ (i ≤ fstF p k i ∧ fstF p k i < i + k ∧ p (fstF p k i) = true)
  | 0, _ => Or.inl rfl
  | k + 1, i => by
    unfold fstF
    cases h : p i with
    | true => exact Or.inr ⟨Int.le_refl _, by show i < _; omega, h⟩
    | false =>
      rcases fst_in (p := p) k (i + 1) with h1 | ⟨h1, h2, h3⟩
      · exact Or.inl h1
      · exact Or.inr ⟨by show i ≤ fstF p k (i + 1); omega, by show fstF p k (i + 1) < _; omega, h3⟩
set_option maxHeartbeats 4000000 in
set_option maxRecDepth 100000 in
theorem k_pts {X : Nat × Nat × (Nat → Int32)} {n : Int} {T : Int → Int} {h : HS} {t : TS} {x : XS} {M : MS} {tb : Int → Int → Int} (hR : repC n T tb) : m_Run X 12 [.inr (.inl 1)] (mW (n, T, h, t, x) M) (m_V (NP n) (mW (n, T, h, t, x) M)) := by
  have hn := hR.1
  have hl := okN_lo hn
  have hq := sq_b hn
  show m_Sem X 12 (0, [some (.inr (.inl 1))], [], mW (n, T, h, t, x) M, 0, 0) _
  refine m_run 13 (ps' := (25, [some (.inr (.inl 1))], [.inl (((n * n) + n) + 1)], mW (n, T, h, t, x) M, 0, 0)) rfl ?_
  exact m_ret1 rfl (Or.inl rfl) rfl (m_Vi rfl)
