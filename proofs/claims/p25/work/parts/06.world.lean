/-! The world of one run: the class's thirteen cells, then the law's own. Truth values, ends of calls, loops. -/
def bI (b : Bool) : Int := bif b then 1 else 0
theorem bI_e0 {b : Bool} : bI b = 0 ↔ b = false := by cases b <;> decide
theorem bI_n0 {b : Bool} : ¬ bI b = 0 ↔ b = true := by cases b <;> decide
theorem bI_01 (b : Bool) : bI b = 0 ∨ bI b = 1 := by cases b <;> decide
theorem bI_R (b : Bool) : m_R (bI b) := by cases b <;> exact ⟨by decide, by decide⟩
abbrev HS : Type := Int × (Int → Int) × (Int → Int)
abbrev TS : Type := Int × (Int → Int)
abbrev XS : Type := (Int → Int) × (Int → Int) × (Int → Int) × Int × Int × Int
abbrev CS : Type := Int × (Int → Int) × HS × TS × XS
/-- the cells that the class does not have: the law's own -/
abbrev MS : Type := mPW
def mW (c : CS) (m : MS) : mPW :=
  .inr (5, [.inr (.inl 1), .inr (.inl 2), .inr (.inl 4), .inr (.inl 7), .inr (.inl 9)]) ::
   .inr (2, [.inr (.inl 2)]) ::
   .inr (3, [.inl c.1, .inr (.inl 3)]) ::
   .inl (0, 81, .inl c.2.1) ::
   .inr (0, [.inr (.inl 5), .inr (.inl 6), .inl c.2.2.1.1]) ::
   .inl (0, 4, .inl c.2.2.1.2.1) ::
   .inl (0, 324, .inl c.2.2.1.2.2) ::
   .inr (4, [.inr (.inl 8), .inl c.2.2.2.1.1]) ::
   .inl (1, 60, .inl c.2.2.2.1.2) ::
   .inr (1, [.inr (.inl 10), .inr (.inl 11), .inr (.inl 12), .inl c.2.2.2.2.2.2.2.1, .inl c.2.2.2.2.2.2.2.2.1, .inl c.2.2.2.2.2.2.2.2.2]) ::
   .inl (0, 91, .inl c.2.2.2.2.1) ::
   .inl (0, 91, .inl c.2.2.2.2.2.1) ::
   .inl (0, 91, .inl c.2.2.2.2.2.2.1) :: m
def m_V (v : Int) (w' : mPW) : Option mPV → mPW → Prop := fun r w => r = some (.inl v) ∧ w = w'
def m_U (w' : mPW) : Option mPV → mPW → Prop := fun r w => r = none ∧ w = w'
theorem m_Vi {v a : Int} {w : mPW} (h : a = v) : m_V v w (some (.inl a)) w := ⟨by rw [h], rfl⟩
theorem m_Vw {v a : Int} {w w' : mPW} (h : a = v) (hw : w = w') : m_V v w' (some (.inl a)) w := ⟨by rw [h], hw⟩
theorem m_callVF {X : Nat × Nat × (Nat → Int32)} {mi pc i mi' y : Nat} {z : Int} {L : List (Option mPV)} {S : List mPV} {w w1 : mPW} {bc bs : Nat} {Q : Option mPV → mPW → Prop} {v : Int} {q ci : Nat} {fs : List mPV} (as S' : List mPV) (hf : m_fetch mi pc = some (pc, .invokevirtual i, mi', y, z)) (hw : w[q]? = some (.inr (ci, fs))) (hc : ∃ r : vw_C, vwCl[ci]? = some r ∧ r.1 = (m_y mi').cls) (hst : S = as.reverse ++ .inr (.inl q) :: S') (hok0 : m_cok mi mi' as.length (m_words (.inr (.inl q) :: as)) S' bc bs = true) (C : m_Run X mi' (.inr (.inl q) :: as) w (m_V v w1)) (K : m_Sem X mi (pc + 3, L, .inl v :: S', w1, bc - (m_rm mi').cells, bs - (m_rm mi').slots) Q) : m_Sem X mi (pc, L, S, w, bc, bs) Q :=
  m_callV as S' hf hw hc hst hok0 C (fun r w2 hq _ => by obtain ⟨rfl, rfl⟩ := hq; exact K)
theorem m_callVU {X : Nat × Nat × (Nat → Int32)} {mi pc i mi' y : Nat} {z : Int} {L : List (Option mPV)} {S : List mPV} {w w1 : mPW} {bc bs : Nat} {Q : Option mPV → mPW → Prop} {q ci : Nat} {fs : List mPV} (as S' : List mPV) (hf : m_fetch mi pc = some (pc, .invokevirtual i, mi', y, z)) (hw : w[q]? = some (.inr (ci, fs))) (hc : ∃ r : vw_C, vwCl[ci]? = some r ∧ r.1 = (m_y mi').cls) (hst : S = as.reverse ++ .inr (.inl q) :: S') (hok0 : m_cok mi mi' as.length (m_words (.inr (.inl q) :: as)) S' bc bs = true) (C : m_Run X mi' (.inr (.inl q) :: as) w (m_U w1)) (K : m_Sem X mi (pc + 3, L, S', w1, bc - (m_rm mi').cells, bs - (m_rm mi').slots) Q) : m_Sem X mi (pc, L, S, w, bc, bs) Q :=
  m_callV as S' hf hw hc hst hok0 C (fun r w2 hq _ => by obtain ⟨rfl, rfl⟩ := hq; exact K)
theorem m_callSF {X : Nat × Nat × (Nat → Int32)} {mi pc i mi' y : Nat} {z : Int} {L : List (Option mPV)} {S : List mPV} {w w1 : mPW} {bc bs : Nat} {Q : Option mPV → mPW → Prop} {v : Int} (as S' : List mPV) (hf : m_fetch mi pc = some (pc, .invokestatic i, mi', y, z)) (hst : S = as.reverse ++ S') (hok0 : m_cok mi mi' as.length (m_words as) S' bc bs = true) (C : m_Run X mi' as w (m_V v w1)) (K : m_Sem X mi (pc + 3, L, .inl v :: S', w1, bc - (m_rm mi').cells, bs - (m_rm mi').slots) Q) : m_Sem X mi (pc, L, S, w, bc, bs) Q :=
  m_callS as S' hf hst hok0 C (fun r w2 hq _ => by obtain ⟨rfl, rfl⟩ := hq; exact K)
theorem m_callIU {X : Nat × Nat × (Nat → Int32)} {mi pc i mi' y : Nat} {z : Int} {L : List (Option mPV)} {S : List mPV} {w w1 : mPW} {bc bs : Nat} {Q : Option mPV → mPW → Prop} {q : Nat} (as S' : List mPV) (hf : m_fetch mi pc = some (pc, .invokespecial i, mi', y, z)) (hst : S = as.reverse ++ .inr (.inl q) :: S') (hok0 : m_cok mi mi' as.length (m_words (.inr (.inl q) :: as)) S' bc bs = true) (C : m_Run X mi' (.inr (.inl q) :: as) w (m_U w1)) (K : m_Sem X mi (pc + 3, L, S', w1, bc - (m_rm mi').cells, bs - (m_rm mi').slots) Q) : m_Sem X mi (pc, L, S, w, bc, bs) Q :=
  m_callI as S' hf hst hok0 C (fun r w2 hq _ => by obtain ⟨rfl, rfl⟩ := hq; exact K)
/-- a loop that counts up: from its end backwards -/
theorem m_down {P : Int → Prop} (lo hi : Int) (h1 : P hi) (h2 : ∀ i, lo ≤ i → i < hi → P (i + 1) → P i) : ∀ i, lo ≤ i → i ≤ hi → P i := by
  have key : ∀ (k : Nat) (i : Int), lo ≤ i → i + k = hi → P i := by
    intro k
    induction k with
    | zero => intro i _ h; rw [show i = hi by omega]; exact h1
    | succ k ih => intro i h h'; exact h2 i h (by omega) (ih (i + 1) (by omega) (by omega))
  intro i h h'
  exact key (hi - i).toNat i h (by omega)
def okN (n : Int) : Prop := n = 2 ∨ n = 3 ∨ n = 4 ∨ n = 5 ∨ n = 7 ∨ n = 9
theorem okN_lo {n : Int} (h : okN n) : 2 ≤ n ∧ n ≤ 9 := by unfold okN at h; omega
def repC (n : Int) (T : Int → Int) (tb : Int → Int → Int) : Prop := okN n ∧ ∀ a b, 0 ≤ a → a < n → 0 ≤ b → b < n → T (9 * a + b) = tb a b ∧ 0 ≤ tb a b ∧ tb a b < n
def repM (n : Int) (s : Int → Int) (tb : Int → Int → Int) : Prop := okN n ∧ s 0 = n ∧ ∀ a b, 0 ≤ a → a < n → 0 ≤ b → b < n → s (1 + 9 * a + b) = tb a b ∧ 0 ≤ tb a b ∧ tb a b < n
def sumS (n a b : Int) : Int := if n = 4 then (Int32.ofInt a ^^^ Int32.ofInt b).toInt else if n = 9 then 3 * ((a / 3 + b / 3) % 3) + (a % 3 + b % 3) % 3 else if a + b < n then a + b else a + b - n
def difS (n a b : Int) : Int := if n = 4 then (Int32.ofInt a ^^^ Int32.ofInt b).toInt else if n = 9 then 3 * ((a / 3 - b / 3 + 3) % 3) + (a % 3 - b % 3 + 3) % 3 else if a < b then a - b + n else a - b
def fpS (n a b : Int) : Int := if n = 4 then (if a = 0 ∨ b = 0 then 0 else 1 + (a + b - 2) % 3) else if n = 9 then 3 * ((a / 3 * (b % 3) + a % 3 * (b / 3)) % 3) + (a % 3 * (b % 3) - a / 3 * (b / 3) + 6) % 3 else a * b % n
/-- what a program decides for all sizes and elements -/
theorem all2 {P : Int → Int → Int → Prop} (h : ∀ n ∈ ([2, 3, 4, 5, 7, 9] : List Nat), ∀ a, a < n → ∀ b, b < n → P (n : Int) (a : Int) (b : Int)) {n a b : Int} (hn : okN n) (ha : 0 ≤ a) (ha' : a < n) (hb : 0 ≤ b) (hb' : b < n) : P n a b := by
  have hl := okN_lo hn
  have h1 := h n.toNat (by unfold okN at hn; simp only [List.mem_cons, List.not_mem_nil, or_false]; omega) a.toNat (by omega) b.toNat (by omega)
  rw [Int.toNat_of_nonneg (by omega), Int.toNat_of_nonneg ha, Int.toNat_of_nonneg hb] at h1
  exact h1
theorem sumS_in {n a b : Int} (hn : okN n) (ha : 0 ≤ a) (ha' : a < n) (hb : 0 ≤ b) (hb' : b < n) : 0 ≤ sumS n a b ∧ sumS n a b < n := all2 (P := fun n a b => 0 ≤ sumS n a b ∧ sumS n a b < n) (by decide +kernel) hn ha ha' hb hb'
theorem difS_in {n a b : Int} (hn : okN n) (ha : 0 ≤ a) (ha' : a < n) (hb : 0 ≤ b) (hb' : b < n) : 0 ≤ difS n a b ∧ difS n a b < n := all2 (P := fun n a b => 0 ≤ difS n a b ∧ difS n a b < n) (by decide +kernel) hn ha ha' hb hb'
theorem fpS_in {n a b : Int} (hn : okN n) (ha : 0 ≤ a) (ha' : a < n) (hb : 0 ≤ b) (hb' : b < n) : 0 ≤ fpS n a b ∧ fpS n a b < n := all2 (P := fun n a b => 0 ≤ fpS n a b ∧ fpS n a b < n) (by decide +kernel) hn ha ha' hb hb'
theorem sum_dif {n a b : Int} (hn : okN n) (ha : 0 ≤ a) (ha' : a < n) (hb : 0 ≤ b) (hb' : b < n) : sumS n b (difS n a b) = a := all2 (P := fun n a b => sumS n b (difS n a b) = a) (by decide +kernel) hn ha ha' hb hb'
theorem dif_sum {n a b : Int} (hn : okN n) (ha : 0 ≤ a) (ha' : a < n) (hb : 0 ≤ b) (hb' : b < n) : difS n (sumS n b a) b = a := all2 (P := fun n a b => difS n (sumS n b a) b = a) (by decide +kernel) hn ha ha' hb hb'
theorem sum_comm {n a b : Int} (hn : okN n) (ha : 0 ≤ a) (ha' : a < n) (hb : 0 ≤ b) (hb' : b < n) : sumS n a b = sumS n b a := all2 (P := fun n a b => sumS n a b = sumS n b a) (by decide +kernel) hn ha ha' hb hb'
