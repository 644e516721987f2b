/-! Sums and counts. -/
theorem cn_split (f : Int → Int) : ∀ (a b : Nat) (i : Int), sumF f (a + b) i = sumF f a i + sumF f b (i + a)
  | 0, b, i => by rw [Nat.zero_add]; show _ = 0 + sumF f b (i + ((0 : Nat) : Int)); rw [Int.zero_add]; congr 1; omega
  | a + 1, b, i => by
    rw [show a + 1 + b = (a + b) + 1 by omega]
    show f i + sumF f (a + b) (i + 1) = f i + sumF f a (i + 1) + sumF f b (i + ((a + 1 : Nat) : Int))
    rw [cn_split f a b (i + 1), show i + 1 + (a : Int) = i + ((a + 1 : Nat) : Int) by omega]
    omega
theorem cn_zero {f : Int → Int} : ∀ (k : Nat) (i : Int), (∀ j, i ≤ j → j < i + k → f j = 0) → sumF f k i = 0
  | 0, _, _ => rfl
  | k + 1, i, h => by
    unfold sumF
    rw [h i (by omega) (by omega), cn_zero k (i + 1) (fun j h1 h2 => h j (by omega) (by omega))]
    rfl
theorem cn_const {f : Int → Int} {c : Int} : ∀ (k : Nat) (i : Int), (∀ j, i ≤ j → j < i + k → f j = c) → sumF f k i = k * c
  | 0, _, _ => by simp [sumF]
  | k + 1, i, h => by
    unfold sumF
    rw [h i (by omega) (by omega), cn_const k (i + 1) (fun j h1 h2 => h j (by omega) (by omega)), Int.natCast_add, Int.add_mul]
    simp
    omega
theorem cn_add (f g : Int → Int) : ∀ (k : Nat) (i : Int), sumF (fun j => f j + g j) k i = sumF f k i + sumF g k i
  | 0, _ => rfl
  | k + 1, i => by
    unfold sumF
    rw [cn_add f g k (i + 1)]
    omega
theorem cn_swap (f : Int → Int → Int) (b : Nat) (j : Int) : ∀ (a : Nat) (i : Int), sumF (fun x => sumF (fun y => f x y) b j) a i = sumF (fun y => sumF (fun x => f x y) a i) b j
  | 0, i => by
    rw [show sumF (fun x => sumF (fun y => f x y) b j) 0 i = 0 from rfl]
    exact (cn_zero b j (fun y _ _ => rfl)).symm
  | a + 1, i => by
    rw [show sumF (fun x => sumF (fun y => f x y) b j) (a + 1) i = sumF (fun y => f i y) b j + sumF (fun x => sumF (fun y => f x y) b j) a (i + 1) from rfl]
    rw [cn_swap f b j a (i + 1), ← cn_add]
    rfl
theorem cn_le {f g : Int → Int} : ∀ (k : Nat) (i : Int), (∀ j, i ≤ j → j < i + k → f j ≤ g j) → sumF f k i ≤ sumF g k i
  | 0, _, _ => Int.le_refl _
  | k + 1, i, h => by
    unfold sumF
    have h1 := h i (by omega) (by omega)
    have h2 := cn_le k (i + 1) (fun j h1 h2 => h j (by omega) (by omega))
    omega
theorem cn_pos {f : Int → Int} {j0 c : Int} : ∀ (k : Nat) (i : Int), (∀ j, i ≤ j → j < i + k → 0 ≤ f j) → i ≤ j0 → j0 < i + k → c ≤ f j0 → c ≤ sumF f k i
  | 0, _, _, h1, h2, _ => by omega
  | k + 1, i, h, h1, h2, h3 => by
    unfold sumF
    have h4 := h i (by omega) (by omega)
    have h6 : ∀ j, i + 1 ≤ j → j < i + 1 + k → 0 ≤ f j := fun j h1 h2 => h j (by omega) (by omega)
    have h7 : 0 ≤ sumF f k (i + 1) := by
      have h8 := cn_le (f := fun _ => 0) (g := f) k (i + 1) h6
      rw [cn_zero k (i + 1) (fun _ _ _ => rfl)] at h8
      exact h8
    by_cases he : i = j0
    · subst he; omega
    · have h5 := cn_pos k (i + 1) h6 (by omega) (by omega) h3
      omega
/-- how many there are -/
def cnP (p : Int → Bool) (k : Nat) (i : Int) : Int := sumF (fun j => bI (p j)) k i
theorem bI_in (b : Bool) : 0 ≤ bI b ∧ bI b ≤ 1 := by cases b <;> decide
theorem cnP_0 (p : Int → Bool) (i : Int) : cnP p 0 i = 0 := rfl
theorem cnP_s (p : Int → Bool) (k : Nat) (i : Int) : cnP p (k + 1) i = bI (p i) + cnP p k (i + 1) := rfl
theorem cnP_in (p : Int → Bool) : ∀ (k : Nat) (i : Int), 0 ≤ cnP p k i ∧ cnP p k i ≤ k
  | 0, _ => ⟨Int.le_refl 0, Int.le_refl 0⟩
  | k + 1, i => by
    have h := cnP_in p k (i + 1)
    have h1 := bI_in (p i)
    rw [cnP_s]
    omega
theorem cnP_congr {p q : Int → Bool} (k : Nat) (i : Int) (h : ∀ j, i ≤ j → j < i + k → p j = q j) : cnP p k i = cnP q k i := sum_congr k i (fun j h1 h2 => by rw [h j h1 h2])
theorem cnP_zero {p : Int → Bool} : ∀ (k : Nat) (i : Int), cnP p k i = 0 ↔ ∀ j, i ≤ j → j < i + k → p j = false
  | 0, i => ⟨fun _ j h1 h2 => absurd h2 (by omega), fun _ => rfl⟩
  | k + 1, i => by
    rw [cnP_s]
    have h1 := bI_in (p i)
    have h2 := cnP_in p k (i + 1)
    refine ⟨fun h j g1 g2 => ?_, fun h => ?_⟩
    · by_cases he : j = i
      · rw [he]; exact bI_e0.mp (by omega)
      · exact (cnP_zero k (i + 1)).mp (by omega) j (by omega) (by omega)
    · rw [bI_e0.mpr (h i (by omega) (by omega)), (cnP_zero k (i + 1)).mpr (fun j h1 h2 => h j (by omega) (by omega))]
      rfl
theorem cnP_one {p : Int → Bool} : ∀ (k : Nat) (i : Int), cnP p k i = 1 ↔ ∃ j, (i ≤ j ∧ j < i + k ∧ p j = true) ∧ ∀ j', i ≤ j' → j' < i + k → p j' = true → j' = j
  | 0, i => ⟨fun h => by rw [cnP_0] at h; omega, fun ⟨j, h1, _⟩ => by omega⟩
  | k + 1, i => by
    rw [cnP_s]
    have h2 := cnP_in p k (i + 1)
    cases hp : p i with
    | true =>
      show 1 + cnP p k (i + 1) = 1 ↔ _
      refine ⟨fun h => ⟨i, ⟨by omega, by omega, hp⟩, fun j' g1 g2 g3 => ?_⟩, fun ⟨j, h3, h4⟩ => ?_⟩
      · by_cases he : j' = i
        · exact he
        · have h5 := (cnP_zero (p := p) k (i + 1)).mp (by omega) j' (by omega) (by omega)
          rw [h5] at g3; cases g3
      · have h5 := h4 i (by omega) (by omega) hp
        rw [(cnP_zero k (i + 1)).mpr (fun j' g1 g2 => ?_)]
        · rfl
        · cases h6 : p j' with
          | false => rfl
          | true => have h7 := h4 j' (by omega) (by omega) h6; omega
    | false =>
      show 0 + cnP p k (i + 1) = 1 ↔ _
      rw [Int.zero_add, cnP_one k (i + 1)]
      refine ⟨fun ⟨j, h3, h4⟩ => ⟨j, ⟨by omega, by omega, h3.2.2⟩, fun j' g1 g2 g3 => ?_⟩, fun ⟨j, h3, h4⟩ => ⟨j, ⟨?_, by omega, h3.2.2⟩, fun j' g1 g2 g3 => h4 j' (by omega) (by omega) g3⟩⟩
      · by_cases he : j' = i
        · rw [he, hp] at g3; cases g3
        · exact h4 j' (by omega) (by omega) g3
      · by_cases he : j = i
        · rw [he, hp] at h3; exact absurd h3.2.2 (by decide)
        · omega
theorem cnP_le1 {p : Int → Bool} : ∀ (k : Nat) (i : Int), (∀ j j', i ≤ j → j < j' → j' < i + k → p j = true → p j' = false) → cnP p k i ≤ 1
  | 0, i, _ => by rw [cnP_0]; decide
  | k + 1, i, h => by
    rw [cnP_s]
    cases hp : p i with
    | true =>
      rw [(cnP_zero k (i + 1)).mpr (fun j g1 g2 => h i j (by omega) (by omega) (by omega) hp)]
      decide
    | false =>
      have h3 := cnP_le1 k (i + 1) (fun j j' g1 g2 g3 => h j j' (by omega) g2 (by omega))
      show 0 + _ ≤ _
      omega
theorem cnP_ge1 {p : Int → Bool} {j0 : Int} (k : Nat) (i : Int) (h1 : i ≤ j0) (h2 : j0 < i + k) (h3 : p j0 = true) : 1 ≤ cnP p k i :=
  cn_pos k i (fun j _ _ => (bI_in (p j)).1) h1 h2 (by rw [h3]; decide)
theorem cnP_ge2 {p : Int → Bool} {j0 j1 : Int} : ∀ (k : Nat) (i : Int), i ≤ j0 → j0 < j1 → j1 < i + k → p j0 = true → p j1 = true → 2 ≤ cnP p k i
  | 0, i, h1, h2, h3, _, _ => by omega
  | k + 1, i, h1, h2, h3, h4, h5 => by
    rw [cnP_s]
    by_cases he : i = j0
    · subst he
      have h6 := cnP_ge1 (p := p) (j0 := j1) k (i + 1) (by omega) (by omega) h5
      rw [h4]
      show 2 ≤ 1 + _
      omega
    · have h6 := cnP_ge2 k (i + 1) (by omega) h2 (by omega) h4 h5
      have h7 := (bI_in (p i)).1
      omega
theorem cnP_miss {p : Int → Bool} {j0 : Int} : ∀ (k : Nat) (i : Int), i ≤ j0 → j0 < i + k → p j0 = false → cnP p k i < k
  | 0, i, h1, h2, _ => by omega
  | k + 1, i, h1, h2, h3 => by
    rw [cnP_s]
    have h6 := cnP_in p k (i + 1)
    by_cases he : i = j0
    · subst he
      rw [h3]
      show 0 + _ < _
      omega
    · have h4 := cnP_miss k (i + 1) (by omega) (by omega) h3
      have h5 := (bI_in (p i)).2
      omega
theorem cnP_all {p : Int → Bool} (k : Nat) (i : Int) : cnP p k i = k ↔ ∀ j, i ≤ j → j < i + k → p j = true := by
  refine ⟨fun h j h1 h2 => ?_, fun h => ?_⟩
  · cases hp : p j with
    | true => rfl
    | false => have h3 := cnP_miss k i h1 h2 hp; omega
  · unfold cnP
    rw [cn_const (c := 1) k i (fun j h1 h2 => by rw [h j h1 h2]; rfl)]
    omega
/-- how often a value comes -/
def cnV (f : Int → Int) (v : Int) (k : Nat) (i : Int) : Int := cnP (fun m => decide (f m = v)) k i
theorem pw_bit (d v : Nat) : (2 ^ d).testBit v = decide (d = v) := Nat.testBit_two_pow
def onB (sb eb : Bool) (c : Int) : Bool := !eb && (bif sb then decide (c = 0) else decide (c = 1))
theorem onB_s (sb eb : Bool) {c : Int} (h : 0 ≤ c) : onB true (eb || sb) c = onB sb eb (1 + c) := by
  unfold onB
  cases sb <;> cases eb <;> simp <;> omega
theorem b_full (k : Nat) (v : Nat) (h : v < 9) : (k ^^^ 4294967295).testBit v = ! k.testBit v := by
  rw [Nat.testBit_xor, show (4294967295 : Nat) = 2 ^ 32 - 1 by decide, Nat.testBit_two_pow_sub_one, decide_eq_true (by omega)]
  cases k.testBit v <;> rfl
theorem once_bits (f : Int → Int) : ∀ (k : Nat) (i : Int) (s e : Nat), (∀ j, i ≤ j → j < i + k → 0 ≤ f j) → onceK f k i s e = sumF (fun v => bI (onB (s.testBit v.toNat) (e.testBit v.toNat) (cnV f v k i))) 9 0
  | 0, i, s, e, _ => by
    show popc (s &&& (e ^^^ 4294967295)) = _
    unfold popc
    refine sum_congr 9 0 (fun v h1 h2 => ?_)
    rw [Nat.testBit_and, b_full e v.toNat (by omega)]
    show bI _ = bI (onB _ _ 0)
    unfold onB
    cases s.testBit v.toNat <;> cases e.testBit v.toNat <;> rfl
  | k + 1, i, s, e, h => by
    show onceK f k (i + 1) (s ||| 2 ^ (f i).toNat) (e ||| (s &&& 2 ^ (f i).toNat)) = _
    rw [once_bits f k (i + 1) _ _ (fun j h1 h2 => h j (by omega) (by omega))]
    refine sum_congr 9 0 (fun v h1 h2 => ?_)
    have h3 := h i (by omega) (by omega)
    have h4 := (cnP_in (fun m => decide (f m = v)) k (i + 1)).1
    have e1 : cnV f v (k + 1) i = bI (decide (f i = v)) + cnV f v k (i + 1) := rfl
    rw [Nat.testBit_or, Nat.testBit_or, Nat.testBit_and, pw_bit, e1]
    by_cases he : f i = v
    · rw [decide_eq_true he, decide_eq_true (by omega), Bool.or_true, Bool.and_true]
      exact congrArg bI (onB_s _ _ h4)
    · rw [decide_eq_false he, decide_eq_false (by omega), Bool.or_false, Bool.and_false, Bool.or_false]
      rw [show bI false + cnV f v k (i + 1) = cnV f v k (i + 1) from Int.zero_add _]
theorem once_cnt {n : Int} {f : Int → Int} (h1 : 0 ≤ n) (h2 : n ≤ 9) (hf : ∀ j, 0 ≤ j → j < n → 0 ≤ f j ∧ f j < n) : onceK f n.toNat 0 0 0 = cnP (fun v => decide (cnV f v n.toNat 0 = 1)) n.toNat 0 := by
  rw [once_bits f n.toNat 0 0 0 (fun j g1 g2 => (hf j g1 (by omega)).1)]
  rw [show (9 : Nat) = n.toNat + (9 - n.toNat) by omega, cn_split]
  have hz : sumF (fun v => bI (onB (Nat.testBit 0 v.toNat) (Nat.testBit 0 v.toNat) (cnV f v n.toNat 0))) (9 - n.toNat) (0 + (n.toNat : Int)) = 0 := by
    refine cn_zero _ _ (fun v g1 g2 => ?_)
    have h0 : cnV f v n.toNat 0 = 0 := (cnP_zero _ _).mpr (fun j g3 g4 => decide_eq_false (by have := hf j g3 (by omega); omega))
    rw [h0, Nat.zero_testBit]
    rfl
  rw [hz, Int.add_zero]
  refine sum_congr _ _ (fun v g1 g2 => ?_)
  rw [Nat.zero_testBit]
  unfold onB
  simp
/-- no number comes twice -/
def distK (f : Int → Int) : Nat → Int → Nat → Bool
  | 0, _, _ => true
  | k + 1, i, s => if s.testBit (f i).toNat = true then false else distK f k (i + 1) (s ||| 2 ^ (f i).toNat)
theorem dist_end (f : Int → Int) (n : Int) (s : Nat) : distK f (n - n).toNat n s = true := by rw [nat_end]; rfl
theorem dist_step {f : Int → Int} {n i : Int} {s : Nat} (h : i < n) : distK f (n - i).toNat i s = if s.testBit (f i).toNat = true then false else distK f (n - (i + 1)).toNat (i + 1) (s ||| 2 ^ (f i).toNat) := by rw [nat_step h]; rfl
theorem dist_iff (f : Int → Int) : ∀ (k : Nat) (i : Int) (s : Nat), (∀ j, i ≤ j → j < i + k → 0 ≤ f j) → (distK f k i s = true ↔ (∀ j, i ≤ j → j < i + k → s.testBit (f j).toNat = false) ∧ ∀ j j', i ≤ j → j < j' → j' < i + k → f j ≠ f j')
  | 0, i, s, _ => ⟨fun _ => ⟨fun j h1 h2 => absurd h2 (by omega), fun j j' h1 h2 h3 => absurd h3 (by omega)⟩, fun _ => rfl⟩
  | k + 1, i, s, h => by
    unfold distK
    have h0 := h i (by omega) (by omega)
    have ih := dist_iff f k (i + 1) (s ||| 2 ^ (f i).toNat) (fun j h1 h2 => h j (by omega) (by omega))
    split
    next hb =>
      refine ⟨fun h9 => (by cases h9), fun h9 => ?_⟩
      have h8 := h9.1 i (by omega) (by omega)
      rw [hb] at h8; cases h8
    next hb =>
      rw [ih]
      refine ⟨fun ⟨h1, h2⟩ => ⟨fun j g1 g2 => ?_, fun j j' g1 g2 g3 => ?_⟩, fun ⟨h1, h2⟩ => ⟨fun j g1 g2 => ?_, fun j j' g1 g2 g3 => h2 j j' (by omega) g2 (by omega)⟩⟩
      · by_cases he : j = i
        · rw [he]; exact Bool.eq_false_iff.mpr hb
        · have h3 := h1 j (by omega) (by omega)
          rw [Nat.testBit_or] at h3
          exact (Bool.or_eq_false_iff.mp h3).1
      · by_cases he : j = i
        · rw [he]
          have h3 := h1 j' (by omega) (by omega)
          rw [Nat.testBit_or, pw_bit] at h3
          intro h4
          rw [h4] at h3
          have h5 := (Bool.or_eq_false_iff.mp h3).2
          exact absurd h5 (by simp)
        · exact h2 j j' (by omega) g2 (by omega)
      · rw [Nat.testBit_or, pw_bit, h1 j (by omega) (by omega), Bool.false_or]
        have h3 := h2 i j (by omega) (by omega) (by omega)
        have h4 := h j (by omega) (by omega)
        exact decide_eq_false (by omega)
theorem dist_once {n : Int} {f : Int → Int} (h1 : 0 ≤ n) (h2 : n ≤ 9) (hf : ∀ j, 0 ≤ j → j < n → 0 ≤ f j ∧ f j < n) : distK f n.toNat 0 0 = decide (onceK f n.toNat 0 0 0 = n) := by
  have hd := dist_iff f n.toNat 0 0 (fun j g1 g2 => (hf j g1 (by omega)).1)
  rw [once_cnt h1 h2 hf]
  cases hk : distK f n.toNat 0 0 with
  | true =>
    have h3 := (hd.mp hk).2
    symm
    refine decide_eq_true ?_
    have hle : ∀ v, cnV f v n.toNat 0 ≤ 1 := fun v => cnP_le1 _ _ (fun j j' g1 g2 g3 g4 => decide_eq_false (fun g5 => h3 j j' g1 g2 g3 ((of_decide_eq_true g4).trans g5.symm)))
    have e1 : cnP (fun v => decide (cnV f v n.toNat 0 = 1)) n.toNat 0 = sumF (fun v => sumF (fun m => bI (decide (f m = v))) n.toNat 0) n.toNat 0 := by
      refine sum_congr _ _ (fun v g1 g2 => ?_)
      have g3 := hle v
      have g4 := (cnP_in (fun m => decide (f m = v)) n.toNat 0).1
      show bI (decide (cnV f v n.toNat 0 = 1)) = cnV f v n.toNat 0
      have g5 : 0 ≤ cnV f v n.toNat 0 := g4
      rcases (show cnV f v n.toNat 0 = 0 ∨ cnV f v n.toNat 0 = 1 by omega) with h | h <;> rw [h] <;> rfl
    rw [e1, cn_swap (fun v m => bI (decide (f m = v)))]
    rw [cn_const (c := 1) n.toNat 0 (fun m g1 g2 => ?_)]
    · omega
    · have g3 := hf m g1 (by omega)
      exact (cnP_one (p := fun v => decide (f m = v)) n.toNat 0).mpr ⟨f m, ⟨g3.1, by omega, decide_eq_true rfl⟩, fun j' _ _ g6 => (of_decide_eq_true g6).symm⟩
  | false =>
    symm
    refine decide_eq_false (fun h9 => ?_)
    have h10 := (cnP_all (p := fun v => decide (cnV f v n.toNat 0 = 1)) n.toNat 0).mp (by rw [h9]; omega)
    have h11 : distK f n.toNat 0 0 = true := hd.mpr ⟨fun j _ _ => Nat.zero_testBit _, fun j j' g1 g2 g3 g4 => by
      have g5 := hf j g1 (by omega)
      have g6 := of_decide_eq_true (h10 (f j) g5.1 (by omega))
      have g7 := cnP_ge2 (p := fun m => decide (f m = f j)) (j0 := j) (j1 := j') n.toNat 0 g1 g2 g3 (decide_eq_true rfl) (decide_eq_true g4.symm)
      have g8 : cnV f (f j) n.toNat 0 = cnP (fun m => decide (f m = f j)) n.toNat 0 := rfl
      omega⟩
    rw [h11] at hk
    cases hk
