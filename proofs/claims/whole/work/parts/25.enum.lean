/-! The points of a line and the lines of a point, in their order: what the model's rows say is what the class's formulas say. -/
theorem fst_eq {p : Int → Bool} {v : Int} : ∀ (k : Nat) (i : Int), i ≤ v → v < i + k → p v = true → (∀ j, i ≤ j → j < v → p j = false) → fstF p k i = v
  | 0, i, h1, h2, _, _ => by omega
  | k + 1, i, h1, h2, h3, h4 => by
    unfold fstF
    by_cases he : i = v
    · subst he; rw [h3]; rfl
    · rw [h4 i (Int.le_refl _) (by omega)]
      exact fst_eq k (i + 1) (by omega) (by omega) h3 (fun j g1 g2 => h4 j (by omega) g2)
theorem fst_no {p : Int → Bool} : ∀ (k : Nat) (i : Int), (∀ j, i ≤ j → j < i + k → p j = false) → fstF p k i = -1
  | 0, _, _ => rfl
  | k + 1, i, h => by
    unfold fstF
    rw [h i (by omega) (by omega)]
    exact fst_no k (i + 1) (fun j h1 h2 => h j (by omega) (by omega))
theorem low_pos {P : Int → Bool} : 0 ≤ lowP P ↔ ∃ k, (0 ≤ k ∧ k < 91) ∧ P k = true := by
  unfold lowP onfS
  constructor
  · intro h
    rcases fst_in (p := P) 91 0 with h1 | ⟨h1, h2, h3⟩
    · rw [h1] at h; exact absurd h (by decide)
    · exact ⟨_, ⟨h1, by omega⟩, h3⟩
  · intro ⟨k, h1, h2⟩
    rcases fst_in (p := P) 91 0 with h3 | ⟨h3, h4, -⟩
    · exfalso
      have h5 : ∀ (m : Nat) (i : Int), fstF P m i = -1 → 0 ≤ i → ∀ j, i ≤ j → j < i + m → P j = false := by
        intro m
        induction m with
        | zero => intro i _ _ j g1 g2; omega
        | succ m ih =>
          intro i h6 h7 j g1 g2
          unfold fstF at h6
          cases hp : P i with
          | true => rw [hp] at h6; have h8 : i = -1 := h6; omega
          | false =>
            rw [hp] at h6
            by_cases he : j = i
            · rw [he]; exact hp
            · exact ih (i + 1) h6 (by omega) j (by omega) (by omega)
      have h9 := h5 91 0 h3 (by omega) k h1.1 (by omega)
      rw [h9] at h2; cases h2
    · rw [if_neg (by omega)]; exact h3
/-- g tells all that P holds of, in order -/
def enumG (n : Int) (g : Int → Int) (P : Int → Bool) : Prop := (∀ i, 0 ≤ i → i ≤ n → 0 ≤ g i ∧ g i < NP n ∧ P (g i) = true) ∧ (∀ i j, 0 ≤ i → i < j → j ≤ n → g i < g j) ∧ ∀ k, P k = true → ∃ i, 0 ≤ i ∧ i ≤ n ∧ g i = k
theorem np_91 {n : Int} (hn : okN n) : NP n ≤ 91 := by
  have hl := okN_lo hn
  have hq := sq_b hn
  have hnp : NP n = n * n + n + 1 := rfl
  omega
theorem idx_enum {n : Int} {g : Int → Int} {P : Int → Bool} (hn : okN n) (h : enumG n g P) : ∀ (k : Nat) (i c m : Int), i + k = 91 → 0 ≤ i → 0 ≤ c → c ≤ n + 1 → 0 ≤ m → (∀ j, 0 ≤ j → j ≤ n → (g j < i ↔ j < c)) → idxF P k i m = if c + m ≤ n then g (c + m) else -1
  | 0, i, c, m, h1, h2, h3, h4, h5, h6 => by
    have h7 : ¬ c ≤ n := by
      intro h8
      have h9 := h6 c h3 h8
      have h10 := h.1 c h3 h8
      have h11 := np_91 hn
      omega
    rw [if_neg (by omega)]
    rfl
  | k + 1, i, c, m, h1, h2, h3, h4, h5, h6 => by
    unfold idxF
    cases hP : P i with
    | true =>
      obtain ⟨j, j0, j1, hj⟩ := h.2.2 i hP
      have hjc : j = c := by
        have a1 := h6 j j0 j1
        by_cases h7 : c < j
        · have a2 := h.2.1 c j h3 h7 j1
          have a3 := h6 c h3 (by omega)
          omega
        · omega
      by_cases hm : m = 0
      · rw [if_pos ⟨rfl, hm⟩, if_pos (by omega), show c + m = j by omega]
        exact hj.symm
      · rw [if_neg (fun h9 => hm h9.2)]
        show idxF P k (i + 1) (m - 1) = _
        rw [idx_enum hn h k (i + 1) (c + 1) (m - 1) (by omega) (by omega) (by omega) (by omega) (by omega) (fun j' g1 g2 => ?_), show c + 1 + (m - 1) = c + m by omega]
        rcases Int.lt_trichotomy j' c with h7 | h7 | h7
        · have a1 := h6 j' g1 g2
          omega
        · subst h7; rw [← hjc, hj]; omega
        · have a1 := h.2.1 c j' h3 h7 g2
          rw [← hjc, hj] at a1
          omega
    | false =>
      rw [if_neg (fun h9 => by cases h9.1)]
      show idxF P k (i + 1) (m - 0) = _
      rw [idx_enum hn h k (i + 1) c (m - 0) (by omega) (by omega) (by omega) (by omega) (by omega) (fun j' g1 g2 => ?_), show c + (m - 0) = c + m by omega]
      have a1 := h6 j' g1 g2
      have a2 : ¬ g j' = i := fun h9 => by
        have a3 := (h.1 j' g1 g2).2.2
        rw [h9, hP] at a3; cases a3
      omega
theorem atM_enum {n m : Int} {g : Int → Int} {P : Int → Bool} (hn : okN n) (h : enumG n g P) (hm : 0 ≤ m) : atM P m = onfS (if m ≤ n then g m else -1) := by
  have hl := okN_lo hn
  unfold atM
  rw [idx_enum hn h 91 0 0 m (by omega) (by omega) (by omega) (by omega) hm (fun j h1 h2 => ?_), Int.zero_add]
  have h3 := (h.1 j h1 h2).1
  omega
theorem mst {n i j : Int} (hn : okN n) (h : i < j) : n * i + n ≤ n * j := by
  have hl := okN_lo hn
  have h1 := Int.mul_le_mul_of_nonneg_left (a := i + 1) (b := j) (c := n) (by omega) (by omega)
  rw [Int.mul_add, Int.mul_one] at h1
  exact h1
theorem mle {n i j : Int} (hn : okN n) (h : i ≤ j) : n * i ≤ n * j := by
  have hl := okN_lo hn
  exact Int.mul_le_mul_of_nonneg_left h (by omega)
theorem dm_of {n i s : Int} (hn : okN n) (h1 : 0 ≤ s) (h2 : s < n) : (n * i + s) / n = i ∧ (n * i + s) % n = s := by
  have hl := okN_lo hn
  rw [Int.add_comm (n * i) s]
  refine ⟨?_, ?_⟩
  · rw [Int.add_mul_ediv_left s i (by omega), Int.ediv_eq_zero_of_lt h1 h2, Int.zero_add]
  · rw [Int.add_mul_emod_self_left, Int.emod_eq_of_lt h1 h2]
theorem dm_eq (n p : Int) : n * (p / n) + p % n = p := Int.mul_ediv_add_emod p n
theorem ptC_hi {n : Int} {tb : Int → Int → Int} {l i : Int} (h1 : 0 ≤ l) (h2 : l < NP n) (h : n * n ≤ l) (h3 : 0 ≤ i) (h4 : i ≤ n) : ptC n tb l i = if i < n then n * (l - n * n) + i else n * n + n := by
  unfold ptC
  rw [inN_t h1 h2, if_neg (by decide), if_neg (by omega), if_neg (by omega), if_pos h]
theorem ptC_lo {n : Int} {tb : Int → Int → Int} {l i : Int} (h1 : 0 ≤ l) (h2 : l < NP n) (h : ¬ n * n ≤ l) (h3 : 0 ≤ i) (h4 : i ≤ n) : ptC n tb l i = if i < n then n * i + sumS n (tb i (l / n)) (l % n) else n * n + l / n := by
  unfold ptC
  rw [inN_t h1 h2, if_neg (by decide), if_neg (by omega), if_neg (by omega), if_neg h]
theorem ltC_hi {n : Int} {tb : Int → Int → Int} {p i : Int} (h1 : 0 ≤ p) (h2 : p < NP n) (h : n * n ≤ p) (h3 : 0 ≤ i) (h4 : i ≤ n) : ltC n tb p i = if i < n then n * (p - n * n) + i else n * n + n := by
  unfold ltC
  rw [inN_t h1 h2, if_neg (by decide), if_neg (by omega), if_neg (by omega), if_pos h]
theorem ltC_lo {n : Int} {tb : Int → Int → Int} {p i : Int} (h1 : 0 ≤ p) (h2 : p < NP n) (h : ¬ n * n ≤ p) (h3 : 0 ≤ i) (h4 : i ≤ n) : ltC n tb p i = if i < n then n * i + difS n (p % n) (tb (p / n) i) else n * n + p / n := by
  unfold ltC
  rw [inN_t h1 h2, if_neg (by decide), if_neg (by omega), if_neg (by omega), if_neg h]
theorem ptC_out {n : Int} {tb : Int → Int → Int} {l i : Int} (h : n < i) : ptC n tb l i = -1 := by
  unfold ptC
  split
  · rfl
  · split
    · rfl
    · first | rfl | rw [if_pos h]
theorem ltC_out {n : Int} {tb : Int → Int → Int} {l i : Int} (h : n < i) : ltC n tb l i = -1 := by
  unfold ltC
  split
  · rfl
  · split
    · rfl
    · first | rfl | rw [if_pos h]
theorem pt_enum {n : Int} {tb : Int → Int → Int} {l : Int} (hn : okN n) (ht : tbR n tb) (h1 : 0 ≤ l) (h2 : l < NP n) : enumG n (ptC n tb l) (lnR n tb l) := by
  have hl := okN_lo hn
  have hq := sq_b hn
  have hnp : NP n = n * n + n + 1 := rfl
  have hmd := mod_in (n := n) (p := l) hn
  by_cases h : n * n ≤ l
  · obtain ⟨c, hc⟩ : ∃ c, l - n * n = c := ⟨_, rfl⟩
    have hcn := mle (i := c) (j := n) hn (by omega)
    have hc0 := mle (i := 0) (j := c) hn (by omega)
    rw [Int.mul_zero] at hc0
    refine ⟨fun i g1 g2 => ?_, fun i j g1 g2 g3 => ?_, fun k hk => ?_⟩
    · rw [ptC_hi h1 h2 h g1 g2, hc]
      by_cases hi : i < n
      · rw [if_pos hi]
        refine ⟨by omega, by omega, ?_⟩
        show onC n tb (n * c + i) l = true
        rw [onC_v (by omega) (by omega) h1 h2, if_pos h, (dm_of hn g1 hi).1, if_pos hc.symm]
      · rw [if_neg hi]
        refine ⟨by omega, by omega, ?_⟩
        show onC n tb (n * n + n) l = true
        rw [onC_v (by omega) (by omega) h1 h2, if_pos h]
        split
        · rfl
        · exact decide_eq_true rfl
    · rw [ptC_hi h1 h2 h g1 (by omega), ptC_hi h1 h2 h (by omega) g3, hc, if_pos (by omega)]
      split <;> omega
    · have hk2 : onC n tb k l = true := hk
      have hr := onC_in hk2
      rw [onC_v hr.1.1 hr.1.2 h1 h2, if_pos h] at hk2
      split at hk2
      next he =>
        have hm := mod_in (n := n) (p := k) hn
        refine ⟨k % n, hm.1, by omega, ?_⟩
        rw [ptC_hi h1 h2 h hm.1 (by omega), if_pos hm.2, ← he]
        exact dm_eq n k
      next he =>
        have h9 := of_decide_eq_true hk2
        refine ⟨n, by omega, by omega, ?_⟩
        rw [ptC_hi h1 h2 h (by omega) (by omega), if_neg (by omega)]
        exact h9.symm
  · have hd := div_in hn h1 (show l < n * n by omega)
    have hs : ∀ i, 0 ≤ i → i < n → 0 ≤ sumS n (tb i (l / n)) (l % n) ∧ sumS n (tb i (l / n)) (l % n) < n := by
      intro i g1 g2
      have h3 := ht i (l / n) g1 g2 hd.1 hd.2
      exact sumS_in hn h3.1 h3.2 hmd.1 hmd.2
    refine ⟨fun i g1 g2 => ?_, fun i j g1 g2 g3 => ?_, fun k hk => ?_⟩
    · rw [ptC_lo h1 h2 h g1 g2]
      by_cases hi : i < n
      · rw [if_pos hi]
        have h3 := hs i g1 hi
        have h4 := mul_lt_sq hn g1 hi h3.1 h3.2
        refine ⟨by omega, by omega, ?_⟩
        show onC n tb (n * i + sumS n (tb i (l / n)) (l % n)) l = true
        have h5 := dm_of (i := i) hn h3.1 h3.2
        rw [onC_v (by omega) (by omega) h1 h2, if_neg h, if_pos h4.2, h5.1, h5.2]
        exact decide_eq_true rfl
      · rw [if_neg hi]
        refine ⟨by omega, by omega, ?_⟩
        show onC n tb (n * n + l / n) l = true
        rw [onC_v (by omega) (by omega) h1 h2, if_neg h, if_neg (by omega)]
        exact decide_eq_true rfl
    · rw [ptC_lo h1 h2 h g1 (by omega), ptC_lo h1 h2 h (by omega) g3, if_pos (by omega)]
      have h3 := hs i g1 (by omega)
      split
      next hj =>
        have h4 := hs j (by omega) hj
        have h5 := mst hn g2
        omega
      next hj =>
        have h4 := mul_lt_sq hn g1 (by omega) h3.1 h3.2
        omega
    · have hk2 : onC n tb k l = true := hk
      have hr := onC_in hk2
      rw [onC_v hr.1.1 hr.1.2 h1 h2, if_neg h] at hk2
      split at hk2
      next he =>
        have h9 := of_decide_eq_true hk2
        have h3 := div_in hn hr.1.1 he
        refine ⟨k / n, h3.1, by omega, ?_⟩
        rw [ptC_lo h1 h2 h h3.1 (by omega), if_pos h3.2, ← h9]
        exact dm_eq n k
      next he =>
        have h9 := of_decide_eq_true hk2
        refine ⟨n, by omega, by omega, ?_⟩
        rw [ptC_lo h1 h2 h (by omega) (by omega), if_neg (by omega)]
        exact h9.symm
theorem lt_enum {n : Int} {tb : Int → Int → Int} {p : Int} (hn : okN n) (ht : tbR n tb) (h1 : 0 ≤ p) (h2 : p < NP n) : enumG n (ltC n tb p) (ptR n tb p) := by
  have hl := okN_lo hn
  have hq := sq_b hn
  have hnp : NP n = n * n + n + 1 := rfl
  have hmd := mod_in (n := n) (p := p) hn
  by_cases h : n * n ≤ p
  · obtain ⟨c, hc⟩ : ∃ c, p - n * n = c := ⟨_, rfl⟩
    have hcn := mle (i := c) (j := n) hn (by omega)
    have hc0 := mle (i := 0) (j := c) hn (by omega)
    rw [Int.mul_zero] at hc0
    have hdt := div_top (n := n) (p := p) hn
    refine ⟨fun i g1 g2 => ?_, fun i j g1 g2 g3 => ?_, fun k hk => ?_⟩
    · rw [ltC_hi h1 h2 h g1 g2, hc]
      by_cases hi : i < n
      · rw [if_pos hi]
        refine ⟨by omega, by omega, ?_⟩
        show onC n tb p (n * c + i) = true
        rw [onC_v h1 h2 (by omega) (by omega), (dm_of hn g1 hi).1]
        split
        next hb =>
          split
          · rfl
          · by_cases h7 : c < n
            · have h8 := mst hn h7
              omega
            · exact decide_eq_true (by omega)
        next hb =>
          rw [if_neg (by omega)]
          exact decide_eq_true (by omega)
      · rw [if_neg hi]
        refine ⟨by omega, by omega, ?_⟩
        show onC n tb p (n * n + n) = true
        rw [onC_v h1 h2 (by omega) (by omega), if_pos (by omega)]
        split
        · rfl
        · exact decide_eq_true (by omega)
    · rw [ltC_hi h1 h2 h g1 (by omega), ltC_hi h1 h2 h (by omega) g3, hc, if_pos (by omega)]
      split <;> omega
    · have hk2 : onC n tb p k = true := hk
      have hr := onC_in hk2
      rw [onC_v h1 h2 hr.2.1 hr.2.2] at hk2
      split at hk2
      next hb =>
        by_cases h7 : c < n
        · have h8 : k = n * n + n := by
            split at hk2
            · omega
            · have h9 := of_decide_eq_true hk2
              omega
          refine ⟨n, by omega, by omega, ?_⟩
          rw [ltC_hi h1 h2 h (by omega) (by omega), if_neg (by omega)]
          exact h8.symm
        · have h8 : c = n := by omega
          by_cases h10 : k = n * n + n
          · refine ⟨n, by omega, by omega, ?_⟩
            rw [ltC_hi h1 h2 h (by omega) (by omega), if_neg (by omega)]
            exact h10.symm
          · refine ⟨k - n * n, by omega, by omega, ?_⟩
            rw [ltC_hi h1 h2 h (by omega) (by omega), if_pos (by omega), hc, h8]
            omega
      next hb =>
        rw [if_neg (by omega)] at hk2
        have h9 := of_decide_eq_true hk2
        have hm := mod_in (n := n) (p := k) hn
        refine ⟨k % n, hm.1, by omega, ?_⟩
        rw [ltC_hi h1 h2 h hm.1 (by omega), if_pos hm.2, show p - n * n = k / n by omega]
        exact dm_eq n k
  · have hd := div_in hn h1 (show p < n * n by omega)
    have hs : ∀ i, 0 ≤ i → i < n → 0 ≤ difS n (p % n) (tb (p / n) i) ∧ difS n (p % n) (tb (p / n) i) < n := by
      intro i g1 g2
      have h3 := ht (p / n) i hd.1 hd.2 g1 g2
      exact difS_in hn hmd.1 hmd.2 h3.1 h3.2
    refine ⟨fun i g1 g2 => ?_, fun i j g1 g2 g3 => ?_, fun k hk => ?_⟩
    · rw [ltC_lo h1 h2 h g1 g2]
      by_cases hi : i < n
      · rw [if_pos hi]
        have h3 := hs i g1 hi
        have h4 := mul_lt_sq hn g1 hi h3.1 h3.2
        refine ⟨by omega, by omega, ?_⟩
        show onC n tb p (n * i + difS n (p % n) (tb (p / n) i)) = true
        have h5 := dm_of (i := i) hn h3.1 h3.2
        have h6 := ht (p / n) i hd.1 hd.2 g1 hi
        rw [onC_v h1 h2 (by omega) (by omega), if_neg (by omega), if_pos (by omega), h5.1, h5.2, sum_dif hn hmd.1 hmd.2 h6.1 h6.2]
        exact decide_eq_true rfl
      · rw [if_neg hi]
        refine ⟨by omega, by omega, ?_⟩
        show onC n tb p (n * n + p / n) = true
        rw [onC_v h1 h2 (by omega) (by omega), if_pos (by omega), if_pos (by omega)]
    · rw [ltC_lo h1 h2 h g1 (by omega), ltC_lo h1 h2 h (by omega) g3, if_pos (by omega)]
      have h3 := hs i g1 (by omega)
      split
      next hj =>
        have h4 := hs j (by omega) hj
        have h5 := mst hn g2
        omega
      next hj =>
        have h4 := mul_lt_sq hn g1 (by omega) h3.1 h3.2
        omega
    · have hk2 : onC n tb p k = true := hk
      have hr := onC_in hk2
      rw [onC_v h1 h2 hr.2.1 hr.2.2] at hk2
      split at hk2
      next hb =>
        have h8 : k = n * n + p / n := by
          split at hk2
          · omega
          · have h9 := of_decide_eq_true hk2
            omega
        refine ⟨n, by omega, by omega, ?_⟩
        rw [ltC_lo h1 h2 h (by omega) (by omega), if_neg (by omega)]
        exact h8.symm
      next hb =>
        rw [if_pos (by omega)] at hk2
        have h9 := of_decide_eq_true hk2
        have h3 := div_in hn hr.2.1 (show k < n * n by omega)
        have hm := mod_in (n := n) (p := k) hn
        have h6 := ht (p / n) (k / n) hd.1 hd.2 h3.1 h3.2
        refine ⟨k / n, h3.1, by omega, ?_⟩
        rw [ltC_lo h1 h2 h h3.1 (by omega), if_pos h3.2, h9, dif_sum hn hm.1 hm.2 h6.1 h6.2]
        exact dm_eq n k
theorem low_enum {n : Int} {g : Int → Int} {P Q : Int → Bool} {f : Int → Option Int} (hn : okN n) (h : enumG n g P) (hf : ∀ i, f i = if Q (g i) = true then some (g i) else none) : lowP (fun k => P k && Q k) = onfS (oI (optF f (n + 1).toNat 0)) := by
  have hl := okN_lo hn
  have h91 := np_91 hn
  unfold lowP
  congr 1
  cases ho : optF f (n + 1).toNat 0 with
  | none =>
    refine fst_no 91 0 (fun k g1 g2 => ?_)
    cases hP : P k with
    | false => rfl
    | true =>
      obtain ⟨i, i0, i1, hi⟩ := h.2.2 k hP
      have h3 := opt_none _ _ ho i i0 (by omega)
      rw [hf i, hi] at h3
      cases hQ : Q k with
      | false => rfl
      | true => rw [if_pos hQ] at h3; cases h3
  | some v =>
    obtain ⟨j, j0, j1, hj, hmin⟩ := opt_some _ _ ho
    rw [hf j] at hj
    split at hj
    next hQ =>
      have hv : g j = v := Option.some.inj hj
      have h4 := h.1 j j0 (by omega)
      show _ = v
      refine fst_eq 91 0 (by omega) (by omega) ?_ (fun k g1 g2 => ?_)
      · rw [← hv, h4.2.2, hQ]; rfl
      · cases hP : P k with
        | false => rfl
        | true =>
          obtain ⟨i, i0, i1, hi⟩ := h.2.2 k hP
          have h5 : i < j := by
            rcases Int.lt_trichotomy i j with h6 | h6 | h6
            · exact h6
            · subst h6; omega
            · have h7 := h.2.1 j i j0 h6 i1
              omega
          have h3 := hmin i i0 h5
          rw [hf i, hi] at h3
          cases hQ2 : Q k with
          | false => rfl
          | true => rw [if_pos hQ2] at h3; cases h3
    next hQ => cases hj
theorem lnM_C {n : Int} {tb : Int → Int → Int} {p q : Int} (hn : okN n) (ht : tbR n tb) (h1 : 0 ≤ p) (h2 : p < NP n) : lnM n tb p q = onfS (lnC n tb p q) := low_enum (Q := ptR n tb q) hn (lt_enum hn ht h1 h2) (fun _ => rfl)
theorem mtM_C {n : Int} {tb : Int → Int → Int} {l m : Int} (hn : okN n) (ht : tbR n tb) (h1 : 0 ≤ l) (h2 : l < NP n) : mtM n tb l m = onfS (mtC n tb l m) := low_enum (Q := lnR n tb m) hn (pt_enum hn ht h1 h2) (fun _ => rfl)
theorem olC_iff {n : Int} {tb : Int → Int → Int} {p q r : Int} (hn : okN n) (ht : tbR n tb) (h1 : 0 ≤ p) (h2 : p < NP n) : olC n tb p q r = true ↔ ∃ l, onC n tb p l = true ∧ onC n tb q l = true ∧ onC n tb r l = true := by
  have hl := okN_lo hn
  have he := lt_enum hn ht h1 h2
  unfold olC
  rw [Bool.not_eq_true', Bool.eq_false_iff]
  constructor
  · intro h
    refine Classical.byContradiction (fun h9 => h ((all_iff _ _).mpr (fun i g1 g2 => ?_)))
    unfold olF
    cases ha : onC n tb q (ltC n tb p i) with
    | false => rfl
    | true =>
      cases hb : onC n tb r (ltC n tb p i) with
      | false => rfl
      | true => exact absurd ⟨_, (he.1 i g1 (by omega)).2.2, ha, hb⟩ h9
  · intro ⟨l, g1, g2, g3⟩ h9
    obtain ⟨i, i0, i1, hi⟩ := he.2.2 l g1
    have h8 := (all_iff _ _).mp h9 i i0 (by omega)
    unfold olF at h8
    rw [hi, g2, g3] at h8
    cases h8
theorem olM_C {n : Int} {tb : Int → Int → Int} {p q r : Int} (hn : okN n) (ht : tbR n tb) (h1 : 0 ≤ p) (h2 : p < NP n) : olM n tb p q r = olC n tb p q r := by
  rw [Bool.eq_iff_iff, olC_iff hn ht h1 h2]
  unfold olM
  rw [decide_eq_true_iff, low_pos]
  have h91 := np_91 hn
  constructor
  · intro ⟨k, h3, h4⟩
    have h5 := Bool.and_eq_true_iff.mp h4
    have h6 := Bool.and_eq_true_iff.mp h5.1
    exact ⟨k, h6.1, h6.2, h5.2⟩
  · intro ⟨l, g1, g2, g3⟩
    have h5 := onC_in g1
    refine ⟨l, ⟨h5.2.1, by omega⟩, ?_⟩
    show ((onC n tb p l && onC n tb q l) && onC n tb r l) = true
    rw [g1, g2, g3]; rfl
theorem atL_C {n : Int} {tb : Int → Int → Int} {l i : Int} (hn : okN n) (ht : tbR n tb) (h1 : 0 ≤ l) (h2 : l < NP n) (hi : 0 ≤ i) : atM (lnR n tb l) i = onfS (ptC n tb l i) := by
  rw [atM_enum hn (pt_enum hn ht h1 h2) hi]
  split
  · rfl
  · rw [ptC_out (by omega)]
theorem atP_C {n : Int} {tb : Int → Int → Int} {l i : Int} (hn : okN n) (ht : tbR n tb) (h1 : 0 ≤ l) (h2 : l < NP n) (hi : 0 ≤ i) : atM (ptR n tb l) i = onfS (ltC n tb l i) := by
  rw [atM_enum hn (lt_enum hn ht h1 h2) hi]
  split
  · rfl
  · rw [ltC_out (by omega)]
theorem pt_on {n : Int} {tb : Int → Int → Int} {l i : Int} (hn : okN n) (ht : tbR n tb) (h1 : 0 ≤ l) (h2 : l < NP n) (h3 : 0 ≤ i) (h4 : i ≤ n) : (0 ≤ ptC n tb l i ∧ ptC n tb l i < NP n) ∧ onC n tb (ptC n tb l i) l = true := by
  have h := (pt_enum hn ht h1 h2).1 i h3 h4
  exact ⟨⟨h.1, h.2.1⟩, h.2.2⟩
theorem lt_on {n : Int} {tb : Int → Int → Int} {p i : Int} (hn : okN n) (ht : tbR n tb) (h1 : 0 ≤ p) (h2 : p < NP n) (h3 : 0 ≤ i) (h4 : i ≤ n) : (0 ≤ ltC n tb p i ∧ ltC n tb p i < NP n) ∧ onC n tb p (ltC n tb p i) = true := by
  have h := (lt_enum hn ht h1 h2).1 i h3 h4
  exact ⟨⟨h.1, h.2.1⟩, h.2.2⟩
/-! A plane. -/
def plP (n : Int) (tb : Int → Int → Int) : Prop :=
  (∀ p q, 0 ≤ p → p < NP n → 0 ≤ q → q < NP n → p ≠ q → ∃ l, (onC n tb p l = true ∧ onC n tb q l = true) ∧ ∀ l', onC n tb p l' = true → onC n tb q l' = true → l' = l) ∧
  ∀ l m, 0 ≤ l → l < NP n → 0 ≤ m → m < NP n → l ≠ m → ∃ p, (onC n tb p l = true ∧ onC n tb p m = true) ∧ ∀ p', onC n tb p' l = true → onC n tb p' m = true → p' = p
theorem sum_z {f : Int → Int} : ∀ (k : Nat) (i : Int), (∀ j, i ≤ j → j < i + k → 0 ≤ f j) → sumF f k i = 0 → ∀ j, i ≤ j → j < i + k → f j = 0 := by
  intro k i h h0 j h1 h2
  have h3 := h j h1 h2
  have h4 := cn_pos (j0 := j) (c := f j) k i h h1 h2 (Int.le_refl _)
  omega
theorem wrR_nn (Rw : Int → Int → Bool) (k : Int) : 0 ≤ wrR Rw k := (sum_bound (f := wrF Rw k) (B := 1) k.toNat 0 (fun i _ _ => by unfold wrF; split <;> decide)).1
theorem wr_zero {n : Int} {Rw : Int → Int → Bool} (hn : okN n) (h : wrS n Rw = 0) : ∀ k j, 0 ≤ j → j < k → k < NP n → cnP (fun x => Rw k x && Rw j x) 91 0 = 1 := by
  intro k j h1 h2 h3
  have h4 := sum_z (f := wrR Rw) (NP n).toNat 0 (fun i _ _ => wrR_nn Rw i) h k (by omega) (by omega)
  have h5 := sum_z (f := wrF Rw k) k.toNat 0 (fun i _ _ => by unfold wrF; split <;> decide) h4 j (by omega) (by omega)
  unfold wrF at h5
  split at h5
  next h6 => exact h6
  next => exact absurd h5 (by decide)
theorem wr_one {n : Int} {Rw : Int → Int → Bool} (hn : okN n) (hR : ∀ k x, Rw k x = true → 0 ≤ x ∧ x < NP n) (h : wrS n Rw = 0) {k j : Int} (h1 : 0 ≤ k) (h2 : k < NP n) (h3 : 0 ≤ j) (h4 : j < NP n) (hne : k ≠ j) : ∃ x, (Rw k x = true ∧ Rw j x = true) ∧ ∀ x', Rw k x' = true → Rw j x' = true → x' = x := by
  have h91 := np_91 hn
  have key : ∀ a b, 0 ≤ b → b < a → a < NP n → ∃ x, (Rw a x = true ∧ Rw b x = true) ∧ ∀ x', Rw a x' = true → Rw b x' = true → x' = x := by
    intro a b g1 g2 g3
    obtain ⟨x, hx, hu⟩ := (cnP_one _ _).mp (wr_zero hn h a b g1 g2 g3)
    have hx2 := Bool.and_eq_true_iff.mp hx.2.2
    refine ⟨x, hx2, fun x' g4 g5 => ?_⟩
    have g6 := hR a x' g4
    exact hu x' g6.1 (by omega) (by rw [g4, g5]; rfl)
  rcases Int.lt_trichotomy k j with hlt | hlt | hlt
  · obtain ⟨x, hx, hu⟩ := key j k h1 hlt h4
    exact ⟨x, ⟨hx.2, hx.1⟩, fun x' g1 g2 => hu x' g2 g1⟩
  · exact absurd hlt hne
  · exact key k j h3 hlt h2
theorem plM_P {n : Int} {tb : Int → Int → Int} (hn : okN n) (h : plM n tb = true) : plP n tb := by
  unfold plM at h
  have h1 := Bool.and_eq_true_iff.mp h
  refine ⟨fun p q g1 g2 g3 g4 g5 => ?_, fun l m g1 g2 g3 g4 g5 => ?_⟩
  · exact wr_one (Rw := ptR n tb) hn (fun k x hk => (onC_in hk).2) (of_decide_eq_true h1.1) g1 g2 g3 g4 g5
  · exact wr_one (Rw := lnR n tb) hn (fun k x hk => (onC_in hk).1) (of_decide_eq_true h1.2) g1 g2 g3 g4 g5
theorem ln_sp {n : Int} {tb : Int → Int → Int} {p q : Int} (hn : okN n) (ht : tbR n tb) (h1 : 0 ≤ p) (h2 : p < NP n) {l : Int} (ha : onC n tb p l = true) (hb : onC n tb q l = true) : (0 ≤ lnC n tb p q ∧ lnC n tb p q < NP n) ∧ onC n tb p (lnC n tb p q) = true ∧ onC n tb q (lnC n tb p q) = true := by
  have hl := okN_lo hn
  have he := lt_enum hn ht h1 h2
  unfold lnC
  cases ho : optF (lnF n tb p q) (n + 1).toNat 0 with
  | none =>
    obtain ⟨i, i0, i1, hi⟩ := he.2.2 l ha
    have h3 := opt_none _ _ ho i i0 (by omega)
    unfold lnF at h3
    rw [hi, if_pos hb] at h3
    cases h3
  | some v =>
    obtain ⟨j, j0, j1, hj, -⟩ := opt_some _ _ ho
    unfold lnF at hj
    split at hj
    next hQ =>
      have hv : ltC n tb p j = v := Option.some.inj hj
      have h4 := he.1 j j0 (by omega)
      show (0 ≤ v ∧ v < NP n) ∧ onC n tb p v = true ∧ onC n tb q v = true
      rw [← hv]
      exact ⟨⟨h4.1, h4.2.1⟩, h4.2.2, hQ⟩
    next => cases hj
theorem mt_sp {n : Int} {tb : Int → Int → Int} {l m : Int} (hn : okN n) (ht : tbR n tb) (h1 : 0 ≤ l) (h2 : l < NP n) {p : Int} (ha : onC n tb p l = true) (hb : onC n tb p m = true) : (0 ≤ mtC n tb l m ∧ mtC n tb l m < NP n) ∧ onC n tb (mtC n tb l m) l = true ∧ onC n tb (mtC n tb l m) m = true := by
  have hl := okN_lo hn
  have he := pt_enum hn ht h1 h2
  unfold mtC
  cases ho : optF (mtF n tb l m) (n + 1).toNat 0 with
  | none =>
    obtain ⟨i, i0, i1, hi⟩ := he.2.2 p ha
    have h3 := opt_none _ _ ho i i0 (by omega)
    unfold mtF at h3
    rw [hi, if_pos hb] at h3
    cases h3
  | some v =>
    obtain ⟨j, j0, j1, hj, -⟩ := opt_some _ _ ho
    unfold mtF at hj
    split at hj
    next hQ =>
      have hv : ptC n tb l j = v := Option.some.inj hj
      have h4 := he.1 j j0 (by omega)
      show (0 ≤ v ∧ v < NP n) ∧ onC n tb v l = true ∧ onC n tb v m = true
      rw [← hv]
      exact ⟨⟨h4.1, h4.2.1⟩, h4.2.2, hQ⟩
    next => cases hj
theorem pl_ln {n : Int} {tb : Int → Int → Int} (hn : okN n) (ht : tbR n tb) (hP : plP n tb) {p q : Int} (h1 : 0 ≤ p) (h2 : p < NP n) (h3 : 0 ≤ q) (h4 : q < NP n) : (0 ≤ lnC n tb p q ∧ lnC n tb p q < NP n) ∧ onC n tb p (lnC n tb p q) = true ∧ onC n tb q (lnC n tb p q) = true := by
  have hl := okN_lo hn
  by_cases he : p = q
  · have h5 := lt_on (i := 0) hn ht h1 h2 (by omega) (by omega)
    exact ln_sp hn ht h1 h2 h5.2 (by rw [← he]; exact h5.2)
  · obtain ⟨l, hx, -⟩ := hP.1 p q h1 h2 h3 h4 he
    exact ln_sp hn ht h1 h2 hx.1 hx.2
theorem pl_mt {n : Int} {tb : Int → Int → Int} (hn : okN n) (ht : tbR n tb) (hP : plP n tb) {l m : Int} (h1 : 0 ≤ l) (h2 : l < NP n) (h3 : 0 ≤ m) (h4 : m < NP n) : (0 ≤ mtC n tb l m ∧ mtC n tb l m < NP n) ∧ onC n tb (mtC n tb l m) l = true ∧ onC n tb (mtC n tb l m) m = true := by
  have hl := okN_lo hn
  by_cases he : l = m
  · have h5 := pt_on (i := 0) hn ht h1 h2 (by omega) (by omega)
    exact mt_sp hn ht h1 h2 h5.2 (by rw [← he]; exact h5.2)
  · obtain ⟨p, hx, -⟩ := hP.2 l m h1 h2 h3 h4 he
    exact mt_sp hn ht h1 h2 hx.1 hx.2
theorem pl_ln_u {n : Int} {tb : Int → Int → Int} (hn : okN n) (ht : tbR n tb) (hP : plP n tb) {p q l : Int} (hne : p ≠ q) (ha : onC n tb p l = true) (hb : onC n tb q l = true) : lnC n tb p q = l := by
  have h1 := onC_in ha
  have h2 := onC_in hb
  have h3 := pl_ln hn ht hP h1.1.1 h1.1.2 h2.1.1 h2.1.2
  obtain ⟨l', -, hu⟩ := hP.1 p q h1.1.1 h1.1.2 h2.1.1 h2.1.2 hne
  rw [hu _ h3.2.1 h3.2.2, hu l ha hb]
theorem pl_mt_u {n : Int} {tb : Int → Int → Int} (hn : okN n) (ht : tbR n tb) (hP : plP n tb) {l m p : Int} (hne : l ≠ m) (ha : onC n tb p l = true) (hb : onC n tb p m = true) : mtC n tb l m = p := by
  have h1 := onC_in ha
  have h2 := onC_in hb
  have h3 := pl_mt hn ht hP h1.2.1 h1.2.2 h2.2.1 h2.2.2
  obtain ⟨p', -, hu⟩ := hP.2 l m h1.2.1 h1.2.2 h2.2.1 h2.2.2 hne
  rw [hu _ h3.2.1 h3.2.2, hu p ha hb]
theorem pb_v {n : Int} {tb : Int → Int → Int} {l o i : Int} (hn : okN n) (ht : tbR n tb) (h1 : 0 ≤ l) (h2 : l < NP n) (h3 : 0 ≤ i) (h4 : i < n) : (0 ≤ pbC n tb l o i ∧ pbC n tb l o i < NP n) ∧ onC n tb (pbC n tb l o i) l = true := by
  unfold pbC
  split
  · exact pt_on hn ht h1 h2 h3 (by omega)
  · exact pt_on hn ht h1 h2 (by omega) (by omega)
theorem onf_v {v : Int} (h : 0 ≤ v) : onfS v = v := by unfold onfS; rw [if_neg (by omega)]
