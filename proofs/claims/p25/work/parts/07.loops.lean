/-! What the loops compute: the first, the sum, all, the first of some kind; k steps from i on. -/
def fstF (p : Int → Bool) : Nat → Int → Int
  | 0, _ => -1
  | k + 1, i => bif p i then i else fstF p k (i + 1)
def sumF (f : Int → Int) : Nat → Int → Int
  | 0, _ => 0
  | k + 1, i => f i + sumF f k (i + 1)
def allF (p : Int → Bool) : Nat → Int → Bool
  | 0, _ => true
  | k + 1, i => p i && allF p k (i + 1)
def optF {α : Type} (f : Int → Option α) : Nat → Int → Option α
  | 0, _ => none
  | k + 1, i => match f i with
    | some a => some a
    | none => optF f k (i + 1)
theorem nat_end (n : Int) : (n - n).toNat = 0 := by omega
theorem nat_step {n i : Int} (h : i < n) : (n - i).toNat = (n - (i + 1)).toNat + 1 := by omega
theorem fst_end (p : Int → Bool) (n : Int) : fstF p (n - n).toNat n = -1 := by rw [nat_end]; rfl
theorem fst_t {p : Int → Bool} {n i : Int} (h : i < n) (hp : p i = true) : fstF p (n - i).toNat i = i := by
  rw [nat_step h]
  show (bif p i then i else fstF p (n - (i + 1)).toNat (i + 1)) = _
  rw [hp]; rfl
theorem fst_f {p : Int → Bool} {n i : Int} (h : i < n) (hp : p i = false) : fstF p (n - i).toNat i = fstF p (n - (i + 1)).toNat (i + 1) := by
  rw [nat_step h]
  show (bif p i then i else fstF p (n - (i + 1)).toNat (i + 1)) = _
  rw [hp]; rfl
theorem sum_end (f : Int → Int) (n : Int) : sumF f (n - n).toNat n = 0 := by rw [nat_end]; rfl
theorem sum_step {f : Int → Int} {n i : Int} (h : i < n) : sumF f (n - i).toNat i = f i + sumF f (n - (i + 1)).toNat (i + 1) := by rw [nat_step h]; rfl
theorem all_end (p : Int → Bool) (n : Int) : allF p (n - n).toNat n = true := by rw [nat_end]; rfl
theorem all_t {p : Int → Bool} {n i : Int} (h : i < n) (hp : p i = true) : allF p (n - i).toNat i = allF p (n - (i + 1)).toNat (i + 1) := by
  rw [nat_step h]
  show (p i && allF p (n - (i + 1)).toNat (i + 1)) = _
  rw [hp]; rfl
theorem all_f {p : Int → Bool} {n i : Int} (h : i < n) (hp : p i = false) : allF p (n - i).toNat i = false := by
  rw [nat_step h]
  show (p i && allF p (n - (i + 1)).toNat (i + 1)) = _
  rw [hp]; rfl
theorem opt_end {α : Type} (f : Int → Option α) (n : Int) : optF f (n - n).toNat n = none := by rw [nat_end]; rfl
theorem opt_s {α : Type} {f : Int → Option α} {n i : Int} {a : α} (h : i < n) (hp : f i = some a) : optF f (n - i).toNat i = some a := by
  rw [nat_step h]
  show (match f i with | some a => some a | none => optF f (n - (i + 1)).toNat (i + 1)) = _
  rw [hp]
theorem opt_n {α : Type} {f : Int → Option α} {n i : Int} (h : i < n) (hp : f i = none) : optF f (n - i).toNat i = optF f (n - (i + 1)).toNat (i + 1) := by
  rw [nat_step h]
  show (match f i with | some a => some a | none => optF f (n - (i + 1)).toNat (i + 1)) = _
  rw [hp]
theorem z_sub (n : Int) : (n - 0).toNat = n.toNat := by rw [Int.sub_zero]
theorem fst_congr {p q : Int → Bool} : ∀ (k : Nat) (i : Int), (∀ j, i ≤ j → j < i + k → p j = q j) → fstF p k i = fstF q k i
  | 0, _, _ => rfl
  | k + 1, i, h => by
    unfold fstF
    rw [h i (by omega) (by omega), fst_congr k (i + 1) (fun j h1 h2 => h j (by omega) (by omega))]
theorem sum_congr {p q : Int → Int} : ∀ (k : Nat) (i : Int), (∀ j, i ≤ j → j < i + k → p j = q j) → sumF p k i = sumF q k i
  | 0, _, _ => rfl
  | k + 1, i, h => by
    unfold sumF
    rw [h i (by omega) (by omega), sum_congr k (i + 1) (fun j h1 h2 => h j (by omega) (by omega))]
theorem all_congr {p q : Int → Bool} : ∀ (k : Nat) (i : Int), (∀ j, i ≤ j → j < i + k → p j = q j) → allF p k i = allF q k i
  | 0, _, _ => rfl
  | k + 1, i, h => by
    unfold allF
    rw [h i (by omega) (by omega), all_congr k (i + 1) (fun j h1 h2 => h j (by omega) (by omega))]
theorem opt_congr {α : Type} {p q : Int → Option α} : ∀ (k : Nat) (i : Int), (∀ j, i ≤ j → j < i + k → p j = q j) → optF p k i = optF q k i
  | 0, _, _ => rfl
  | k + 1, i, h => by
    unfold optF
    rw [h i (by omega) (by omega), opt_congr k (i + 1) (fun j h1 h2 => h j (by omega) (by omega))]
theorem all_iff {p : Int → Bool} : ∀ (k : Nat) (i : Int), allF p k i = true ↔ ∀ j, i ≤ j → j < i + k → p j = true
  | 0, i => ⟨fun _ j h1 h2 => absurd h2 (by omega), fun _ => rfl⟩
  | k + 1, i => by
    unfold allF
    rw [Bool.and_eq_true, all_iff k (i + 1)]
    refine ⟨fun h j h1 h2 => ?_, fun h => ⟨h i (by omega) (by omega), fun j h1 h2 => h j (by omega) (by omega)⟩⟩
    by_cases hj : j = i
    · rw [hj]; exact h.1
    · exact h.2 j (by omega) (by omega)
theorem sum_bound {f : Int → Int} {B : Int} : ∀ (k : Nat) (i : Int), (∀ j, i ≤ j → j < i + k → 0 ≤ f j ∧ f j ≤ B) → 0 ≤ sumF f k i ∧ sumF f k i ≤ k * B
  | 0, _, _ => ⟨Int.le_refl 0, by simp [sumF]⟩
  | k + 1, i, h => by
    have h1 := h i (by omega) (by omega)
    have h2 := sum_bound k (i + 1) (fun j h1 h2 => h j (by omega) (by omega))
    unfold sumF
    have h3 : ((k + 1 : Nat) : Int) * B = k * B + B := by rw [Int.natCast_add, Int.add_mul]; simp
    omega
