/-! The law's own table: rows of four bits. -/
def bitL (x : Int64) (k : Nat) : Bool := x.toBitVec.getLsbD k
theorem bitL_and (x y : Int64) (k : Nat) : bitL (x &&& y) k = (bitL x k && bitL y k) := by
  unfold bitL
  rw [Int64.toBitVec_and, BitVec.getLsbD_and]
theorem bitL_or (x y : Int64) (k : Nat) : bitL (x ||| y) k = (bitL x k || bitL y k) := by
  unfold bitL
  rw [Int64.toBitVec_or, BitVec.getLsbD_or]
theorem bitL_xor (x y : Int64) (k : Nat) : bitL (x ^^^ y) k = (bitL x k ^^ bitL y k) := by
  unfold bitL
  rw [Int64.toBitVec_xor, BitVec.getLsbD_xor]
theorem bitL_ge (x : Int64) {k : Nat} (h : 64 ≤ k) : bitL x k = false := BitVec.getLsbD_of_ge x.toBitVec k h
theorem bit_ext {x y : Int64} (h : ∀ i, i < 64 → bitL x i = bitL y i) : x = y := by
  apply Int64.toBitVec_inj.mp
  apply BitVec.eq_of_getLsbD_eq
  intro i hi
  exact h i hi
theorem sh_63 {k : Int} (h1 : 0 ≤ k) (h2 : k < 64) : ((Int32.ofInt k).toInt64 &&& 63) = Int64.ofNat k.toNat := by
  have h : ∀ k, k < 64 → ((Int32.ofInt ((k : Nat) : Int)).toInt64 &&& 63) = Int64.ofNat k := by decide +kernel
  have h3 := h k.toNat (by omega)
  rw [Int.toNat_of_nonneg h1] at h3
  exact h3
theorem smod_k : ∀ k, k < 64 → ((Int64.ofNat k).toBitVec.smod 64).toNat = k := by decide +kernel
theorem updL_s (f : Nat → Int64) (j : Nat) (v : Int64) : vp_updL f j v j = v := by unfold vp_updL; simp
theorem updL_n (f : Nat → Int64) {j k : Nat} (v : Int64) (h : ¬ k = j) : vp_updL f j v k = f k := by unfold vp_updL; simp [h]
def nib (x : Int64) (b : Int) : Int := ((x >>> ((Int32.ofInt (4 * b)).toInt64 &&& 63)) &&& Int64.ofInt 15).toInt32.toInt
def putN (x : Int64) (b r : Int) : Int64 := (x &&& ((Int64.ofInt 15 <<< ((Int32.ofInt (4 * b)).toInt64 &&& 63)) ^^^ Int64.ofInt (-1))) ||| ((Int32.ofInt r).toInt64 <<< ((Int32.ofInt (4 * b)).toInt64 &&& 63))
theorem sh4 {b : Int} (h1 : 0 ≤ b) (h2 : b < 9) : ((Int32.ofInt (4 * b)).toInt64 &&& 63) = Int64.ofNat (4 * b.toNat) := by
  rw [sh_63 (by omega) (by omega), show (4 * b).toNat = 4 * b.toNat by omega]
theorem bitL_15 : ∀ j, j < 64 → bitL (Int64.ofInt 15) j = decide (j < 4) := by decide +kernel
theorem bitL_m1 : ∀ j, j < 64 → bitL (Int64.ofInt (-1)) j = true := by decide +kernel
theorem bitL_k15 : ∀ b, b < 9 → ∀ j, j < 64 → bitL (Int64.ofInt 15 <<< Int64.ofNat (4 * b)) j = decide (4 * b ≤ j ∧ j < 4 * b + 4) := by decide +kernel
theorem bitL_kr : ∀ r, r < 16 → ∀ b, b < 9 → ∀ j, j < 64 → bitL ((Int32.ofInt ((r : Nat) : Int)).toInt64 <<< Int64.ofNat (4 * b)) j = (decide (4 * b ≤ j ∧ j < 4 * b + 4) && r.testBit (j - 4 * b)) := by decide +kernel
theorem bitL_n : ∀ r, r < 16 → ∀ j, j < 64 → bitL (Int64.ofNat r) j = (decide (j < 4) && r.testBit j) := by decide +kernel
theorem nib_val : ∀ r, r < 16 → (Int64.ofNat r).toInt32.toInt = ((r : Nat) : Int) := by decide +kernel
theorem nib_bit (x : Int64) {k : Nat} (hk : k ≤ 32) {i : Nat} (hi : i < 64) : bitL ((x >>> Int64.ofNat k) &&& Int64.ofInt 15) i = (decide (i < 4) && bitL x (k + i)) := by
  rw [bitL_and, bitL_15 i hi]
  by_cases h4 : i < 4
  · rw [decide_eq_true h4, Bool.and_true, Bool.true_and]
    show ((x >>> Int64.ofNat k).toBitVec.getLsbD i) = _
    rw [Int64.toBitVec_shiftRight, BitVec.getLsbD_sshiftRight', smod_k k (by omega), if_pos (show k + i < 64 by omega), decide_eq_false (show ¬ 64 ≤ i by omega)]
    rfl
  · rw [decide_eq_false h4, Bool.and_false, Bool.false_and]
theorem put_bit (x : Int64) {b r : Int} (h1 : 0 ≤ b) (h2 : b < 9) (h3 : 0 ≤ r) (h4 : r < 16) {i : Nat} (hi : i < 64) : bitL (putN x b r) i = if 4 * b.toNat ≤ i ∧ i < 4 * b.toNat + 4 then r.toNat.testBit (i - 4 * b.toNat) else bitL x i := by
  have hr := bitL_kr r.toNat (by omega) b.toNat (by omega) i hi
  rw [Int.toNat_of_nonneg h3] at hr
  unfold putN
  rw [sh4 h1 h2, bitL_or, bitL_and, bitL_xor, bitL_m1 i hi, bitL_k15 b.toNat (by omega) i hi, hr]
  by_cases hc : 4 * b.toNat ≤ i ∧ i < 4 * b.toNat + 4
  · rw [if_pos hc, decide_eq_true hc]
    simp
  · rw [if_neg hc, decide_eq_false hc]
    simp
theorem nib_put_s (x : Int64) {b r : Int} (h1 : 0 ≤ b) (h2 : b < 9) (h3 : 0 ≤ r) (h4 : r < 16) : nib (putN x b r) b = r := by
  have he : (putN x b r >>> Int64.ofNat (4 * b.toNat)) &&& Int64.ofInt 15 = Int64.ofNat r.toNat := bit_ext (fun i hi => by
    rw [nib_bit _ (by omega) hi, bitL_n r.toNat (by omega) i hi]
    by_cases h5 : i < 4
    · rw [put_bit x h1 h2 h3 h4 (by omega), if_pos (by omega), show 4 * b.toNat + i - 4 * b.toNat = i by omega]
    · rw [decide_eq_false h5]; rfl)
  unfold nib
  rw [sh4 h1 h2, he, nib_val r.toNat (by omega), Int.toNat_of_nonneg h3]
theorem nib_put_n (x : Int64) {b b' r : Int} (h1 : 0 ≤ b) (h2 : b < 9) (h3 : 0 ≤ r) (h4 : r < 16) (h5 : 0 ≤ b') (h6 : b' < 9) (hne : ¬ b' = b) : nib (putN x b r) b' = nib x b' := by
  have he : (putN x b r >>> Int64.ofNat (4 * b'.toNat)) &&& Int64.ofInt 15 = (x >>> Int64.ofNat (4 * b'.toNat)) &&& Int64.ofInt 15 := bit_ext (fun i hi => by
    rw [nib_bit _ (by omega) hi, nib_bit _ (by omega) hi]
    by_cases h7 : i < 4
    · rw [put_bit x h1 h2 h3 h4 (by omega), if_neg (by omega)]
    · rw [decide_eq_false h7]; rfl)
  unfold nib
  rw [sh4 h5 h6, he]
/-- a table in rows of four bits, after one put -/
def putF (f : Nat → Int64) (a b r : Int) : Nat → Int64 := vp_updL f a.toNat (putN (f a.toNat) b r)
theorem putF_s (f : Nat → Int64) {a b r : Int} (h1 : 0 ≤ b) (h2 : b < 9) (h3 : 0 ≤ r) (h4 : r < 16) : nib (putF f a b r a.toNat) b = r := by
  unfold putF
  rw [updL_s]
  exact nib_put_s _ h1 h2 h3 h4
theorem putF_n (f : Nat → Int64) {a b r a' b' : Int} (ha : 0 ≤ a) (ha' : 0 ≤ a') (h1 : 0 ≤ b) (h2 : b < 9) (h3 : 0 ≤ r) (h4 : r < 16) (h5 : 0 ≤ b') (h6 : b' < 9) (hne : ¬ (a' = a ∧ b' = b)) : nib (putF f a b r a'.toNat) b' = nib (f a'.toNat) b' := by
  unfold putF
  by_cases h : a'.toNat = a.toNat
  · rw [h, updL_s]
    exact nib_put_n _ h1 h2 h3 h4 h5 h6 (by omega)
  · rw [updL_n _ _ h]
def repL (n : Int) (f : Nat → Int64) (tb : Int → Int → Int) : Prop := okN n ∧ ∀ a b, 0 ≤ a → a < n → 0 ≤ b → b < n → nib (f a.toNat) b = tb a b ∧ 0 ≤ tb a b ∧ tb a b < n
/-! sums, differences and products as the law writes them -/
def addL (n a b : Int) : Int := if n = 9 then (a / 3 + b / 3) % 3 * 3 + (a % 3 + b % 3) % 3 else if n = 4 then (Int32.ofInt a ^^^ Int32.ofInt b).toInt else (a + b) % n
theorem addL_eq {n a b : Int} (hn : okN n) (ha : 0 ≤ a) (ha' : a < n) (hb : 0 ≤ b) (hb' : b < n) : addL n a b = sumS n a b := all2 (P := fun n a b => addL n a b = sumS n a b) (by decide +kernel) hn ha ha' hb hb'
def difL (n a b : Int) : Int := if n = 9 then (a / 3 + 3 - b / 3) % 3 * 3 + (a % 3 + 3 - b % 3) % 3 else if n = 4 then (Int32.ofInt a ^^^ Int32.ofInt b).toInt else (a + n - b) % n
theorem difL_eq {n a b : Int} (hn : okN n) (ha : 0 ≤ a) (ha' : a < n) (hb : 0 ≤ b) (hb' : b < n) : difL n a b = difS n a b := all2 (P := fun n a b => difL n a b = difS n a b) (by decide +kernel) hn ha ha' hb hb'
def mulL (n a b : Int) : Int := if n = 4 then (if a = 0 ∨ b = 0 then 0 else (a - 1 + b - 1) % 3 + 1) else if n = 9 then 3 * ((a / 3 * b + b / 3 * a) % 3) + (a * b + 6 - a / 3 * (b / 3)) % 3 else a * b % n
theorem mulL_eq {n a b : Int} (hn : okN n) (ha : 0 ≤ a) (ha' : a < n) (hb : 0 ≤ b) (hb' : b < n) : mulL n a b = fpS n a b := all2 (P := fun n a b => mulL n a b = fpS n a b) (by decide +kernel) hn ha ha' hb hb'
theorem dif_iff {n x y z : Int} (hn : okN n) (hx : 0 ≤ x) (hx' : x < n) (hy : 0 ≤ y) (hy' : y < n) (hz : 0 ≤ z) (hz' : z < n) : difS n x y = z ↔ x = sumS n y z := by
  refine ⟨fun h => ?_, fun h => ?_⟩
  · rw [← h, sum_dif hn hx hx' hy hy']
  · rw [h]
    exact dif_sum hn hz hz' hy hy'
/-! sets of small numbers -/
def setK (f : Int → Int) : Nat → Int → Nat → Nat
  | 0, _, s => s
  | k + 1, i, s => setK f k (i + 1) (s ||| 2 ^ (f i).toNat)
theorem set_end (f : Int → Int) (n : Int) (s : Nat) : setK f (n - n).toNat n s = s := by rw [nat_end]; rfl
theorem set_step {f : Int → Int} {n i : Int} {s : Nat} (h : i < n) : setK f (n - i).toNat i s = setK f (n - (i + 1)).toNat (i + 1) (s ||| 2 ^ (f i).toNat) := by rw [nat_step h]; rfl
theorem set_lt (f : Int → Int) : ∀ (k : Nat) (i : Int) (s : Nat), (∀ j, i ≤ j → j < i + k → 0 ≤ f j ∧ f j < 9) → s < 512 → setK f k i s < 512
  | 0, _, _, _, h => h
  | k + 1, i, s, h, hs => by
    have h0 := h i (by omega) (by omega)
    exact set_lt f k (i + 1) _ (fun j h1 h2 => h j (by omega) (by omega)) (or9 hs (pow9 h0.1 h0.2))
theorem set_bits (f : Int → Int) : ∀ (k : Nat) (i : Int) (s : Nat), (∀ j, i ≤ j → j < i + k → 0 ≤ f j) → popc (setK f k i s) = sumF (fun v => bI (s.testBit v.toNat || decide (1 ≤ cnV f v k i))) 9 0
  | 0, i, s, _ => by
    show popc s = _
    unfold popc
    refine sum_congr 9 0 (fun v h1 h2 => ?_)
    rw [show cnV f v 0 i = 0 from rfl, decide_eq_false (by decide), Bool.or_false]
  | k + 1, i, s, h => by
    show popc (setK f k (i + 1) (s ||| 2 ^ (f i).toNat)) = _
    rw [set_bits f k (i + 1) _ (fun j h1 h2 => h j (by omega) (by omega))]
    refine sum_congr 9 0 (fun v h1 h2 => ?_)
    have h3 := h i (by omega) (by omega)
    have h4 : 0 ≤ cnV f v k (i + 1) := (cnP_in (fun m => decide (f m = v)) k (i + 1)).1
    have e1 : cnV f v (k + 1) i = bI (decide (f i = v)) + cnV f v k (i + 1) := rfl
    rw [Nat.testBit_or, pw_bit, e1]
    by_cases he : f i = v
    · rw [decide_eq_true he, decide_eq_true (show (f i).toNat = v.toNat by omega), Bool.or_true, Bool.true_or]
      rw [decide_eq_true (show 1 ≤ bI true + cnV f v k (i + 1) by show 1 ≤ 1 + _; omega), Bool.or_true]
    · rw [decide_eq_false he, decide_eq_false (show ¬ (f i).toNat = v.toNat by omega), Bool.or_false]
      rw [show bI false + cnV f v k (i + 1) = cnV f v k (i + 1) from Int.zero_add _]
theorem cn_lt {f g : Int → Int} {j0 : Int} : ∀ (k : Nat) (i : Int), (∀ j, i ≤ j → j < i + k → f j ≤ g j) → i ≤ j0 → j0 < i + k → f j0 < g j0 → sumF f k i < sumF g k i
  | 0, _, _, h1, h2, _ => by omega
  | k + 1, i, h, h1, h2, h3 => by
    unfold sumF
    have h4 := h i (by omega) (by omega)
    by_cases he : i = j0
    · subst he
      have h5 := cn_le (f := f) (g := g) k (i + 1) (fun j h1 h2 => h j (by omega) (by omega))
      omega
    · have h5 := cn_lt k (i + 1) (fun j h1 h2 => h j (by omega) (by omega)) (by omega) (by omega) h3
      omega
/-- a set has as many elements as there were numbers just where each number came just once -/
theorem set_once {n : Int} {f : Int → Int} (h1 : 0 ≤ n) (h2 : n ≤ 9) (hf : ∀ j, 0 ≤ j → j < n → 0 ≤ f j ∧ f j < n) : decide (popc (setK f n.toNat 0 0) = n) = decide (onceK f n.toNat 0 0 0 = n) := by
  have eA := once_bits f n.toNat 0 0 0 (fun j g1 g2 => (hf j g1 (by omega)).1)
  have eB := set_bits f n.toNat 0 0 (fun j g1 g2 => (hf j g1 (by omega)).1)
  have hc : ∀ v, 0 ≤ cnV f v n.toNat 0 := fun v => (cnP_in (fun m => decide (f m = v)) n.toNat 0).1
  have eS : sumF (fun v => cnV f v n.toNat 0) 9 0 = n := by
    show sumF (fun v => sumF (fun m => bI (decide (f m = v))) n.toNat 0) 9 0 = n
    rw [cn_swap (fun v m => bI (decide (f m = v)))]
    rw [cn_const (c := 1) n.toNat 0 (fun m g1 g2 => ?_)]
    · omega
    · have g3 := hf m g1 (by omega)
      exact (cnP_one (p := fun v => decide (f m = v)) 9 0).mpr ⟨f m, ⟨g3.1, by omega, decide_eq_true rfl⟩, fun j' _ _ g6 => (of_decide_eq_true g6).symm⟩
  have fA : ∀ v, bI (onB (Nat.testBit 0 v.toNat) (Nat.testBit 0 v.toNat) (cnV f v n.toNat 0)) ≤ cnV f v n.toNat 0 := by
    intro v
    have g := hc v
    rw [Nat.zero_testBit]
    unfold onB
    by_cases h : cnV f v n.toNat 0 = 1
    · rw [h]; decide
    · simp only [Bool.not_false, Bool.true_and, cond_false, decide_eq_false h]; exact g
  have fB : ∀ v, bI (Nat.testBit 0 v.toNat || decide (1 ≤ cnV f v n.toNat 0)) ≤ cnV f v n.toNat 0 := by
    intro v
    have g := hc v
    rw [Nat.zero_testBit, Bool.false_or]
    by_cases h : 1 ≤ cnV f v n.toNat 0
    · rw [decide_eq_true h]; exact h
    · rw [decide_eq_false h]; exact g
  by_cases hx : ∃ v, 0 ≤ v ∧ v < 9 ∧ 2 ≤ cnV f v n.toNat 0
  · obtain ⟨v, g1, g2, g3⟩ := hx
    have sA := cn_lt (f := fun v => bI (onB (Nat.testBit 0 v.toNat) (Nat.testBit 0 v.toNat) (cnV f v n.toNat 0))) (g := fun v => cnV f v n.toNat 0) 9 0 (fun j _ _ => fA j) g1 (by omega) (by have := (bI_in (onB (Nat.testBit 0 v.toNat) (Nat.testBit 0 v.toNat) (cnV f v n.toNat 0))).2; omega)
    have sB := cn_lt (f := fun v => bI (Nat.testBit 0 v.toNat || decide (1 ≤ cnV f v n.toNat 0))) (g := fun v => cnV f v n.toNat 0) 9 0 (fun j _ _ => fB j) g1 (by omega) (by have := (bI_in (Nat.testBit 0 v.toNat || decide (1 ≤ cnV f v n.toNat 0))).2; omega)
    rw [← eA] at sA
    rw [← eB] at sB
    rw [eS] at sA sB
    rw [decide_eq_false (by omega), decide_eq_false (by omega)]
  · have hle : ∀ v, 0 ≤ v → v < 9 → cnV f v n.toNat 0 = 0 ∨ cnV f v n.toNat 0 = 1 := by
      intro v g1 g2
      have g3 := hc v
      by_cases g4 : 2 ≤ cnV f v n.toNat 0
      · exact absurd ⟨v, g1, g2, g4⟩ hx
      · omega
    have sA : sumF (fun v => bI (onB (Nat.testBit 0 v.toNat) (Nat.testBit 0 v.toNat) (cnV f v n.toNat 0))) 9 0 = sumF (fun v => cnV f v n.toNat 0) 9 0 := sum_congr 9 0 (fun v g1 g2 => by
      rw [Nat.zero_testBit]
      rcases hle v g1 (by omega) with h | h <;> rw [h] <;> rfl)
    have sB : sumF (fun v => bI (Nat.testBit 0 v.toNat || decide (1 ≤ cnV f v n.toNat 0))) 9 0 = sumF (fun v => cnV f v n.toNat 0) 9 0 := sum_congr 9 0 (fun v g1 g2 => by
      rw [Nat.zero_testBit]
      rcases hle v g1 (by omega) with h | h <;> rw [h] <;> rfl)
    rw [eA, eB, sA, sB]
/-- the bits of a small set, one by one -/
theorem bit_at : ∀ s, s < 512 → ∀ x, x < 9 → (Int32.ofInt (Int32.ofInt ((s : Nat) : Int) >>> (Int32.ofInt ((x : Nat) : Int) &&& 31)).toInt &&& Int32.ofInt 1).toInt = bI (s.testBit x) := by decide +kernel
theorem bit_at_i {s : Nat} {x : Int} (hs : s < 512) (h1 : 0 ≤ x) (h2 : x < 9) : (Int32.ofInt (Int32.ofInt ((s : Nat) : Int) >>> (Int32.ofInt x &&& 31)).toInt &&& Int32.ofInt 1).toInt = bI (s.testBit x.toNat) := by
  have h := bit_at s hs x.toNat (by omega)
  rw [Int.toNat_of_nonneg h1] at h
  exact h
/-! the first witness -/
theorem opt_fst {α : Type} {f : Int → Option α} {a : α} {j : Int} : ∀ (k : Nat) (i : Int), i ≤ j → j < i + k → f j = some a → (∀ j', i ≤ j' → j' < j → f j' = none) → optF f k i = some a
  | 0, i, h1, h2, _, _ => by omega
  | k + 1, i, h1, h2, h3, h4 => by
    unfold optF
    by_cases he : i = j
    · rw [he, h3]
    · rw [h4 i (by omega) (by omega)]
      exact opt_fst k (i + 1) (by omega) (by omega) h3 (fun j' g1 g2 => h4 j' (by omega) g2)
theorem opt_non {α : Type} {f : Int → Option α} : ∀ (k : Nat) (i : Int), (∀ j', i ≤ j' → j' < i + k → f j' = none) → optF f k i = none
  | 0, i, _ => rfl
  | k + 1, i, h => by
    unfold optF
    rw [h i (by omega) (by omega)]
    exact opt_non k (i + 1) (fun j' g1 g2 => h j' (by omega) (by omega))
theorem wit_none {n : Int} {tb : Int → Int → Int} {law : Int} (hn : okN n) (h : ∀ a b c, 0 ≤ a → a < n → 0 ≤ b → b < lbS n law → 0 ≤ c → c < lcS n law → holdsS n tb law a b c = true) : witS n tb law = none := by
  have hl := okN_lo hn
  have hb : 1 ≤ lbS n law := by unfold lbS; split <;> omega
  have hc : 1 ≤ lcS n law := by unfold lcS; split <;> omega
  refine opt_non _ _ (fun a g1 g2 => opt_non _ _ (fun b g3 g4 => opt_non _ _ (fun c g5 g6 => ?_)))
  unfold witC
  rw [if_pos (h a b c g1 (by omega) g3 (by omega) g5 (by omega))]
theorem wit_some {n : Int} {tb : Int → Int → Int} {law a b c : Int} (hn : okN n) (ha : 0 ≤ a) (ha2 : a < n) (hb : 0 ≤ b) (hb2 : b < lbS n law) (hc : 0 ≤ c) (hc2 : c < lcS n law) (hf : holdsS n tb law a b c = false)
    (h : ∀ a' b' c', 0 ≤ a' → a' < n → 0 ≤ b' → b' < lbS n law → 0 ≤ c' → c' < lcS n law → (a' < a ∨ (a' = a ∧ (b' < b ∨ (b' = b ∧ c' < c)))) → holdsS n tb law a' b' c' = true) : witS n tb law = some (a, b, c) := by
  have hl := okN_lo hn
  refine opt_fst (j := a) _ _ ha (by omega) (opt_fst (j := b) _ _ hb (by omega) (opt_fst (j := c) _ _ hc (by omega) ?_ (fun c' g1 g2 => ?_)) (fun b' g1 g2 => opt_non _ _ (fun c' g3 g4 => ?_))) (fun a' g1 g2 => opt_non _ _ (fun b' g3 g4 => opt_non _ _ (fun c' g5 g6 => ?_)))
  · unfold witC; rw [if_neg (by rw [hf]; decide)]
  · unfold witC; rw [if_pos (h a b c' ha ha2 hb hb2 g1 (by omega) (by omega))]
  · unfold witC; rw [if_pos (h a b' c' ha ha2 g1 (by omega) g3 (by omega) (by omega))]
  · unfold witC; rw [if_pos (h a' b' c' g1 (by omega) g3 (by omega) g5 (by omega) (by omega))]
def wcdL : Option (Int × Int × Int) → Int
  | none => -1
  | some (a, b, c) => 100 * a + 10 * b + c
/-- row k of the law's own order, by its three digits -/
theorem dig3 {n k : Int} (hn : okN n) (h1 : 0 ≤ k) (h2 : k < n * n * n) : (0 ≤ k / n / n ∧ k / n / n < n) ∧ (0 ≤ k / n % n ∧ k / n % n < n) ∧ (0 ≤ k % n ∧ k % n < n) := by
  unfold okN at hn
  rcases hn with rfl | rfl | rfl | rfl | rfl | rfl <;> omega
theorem dig3_of {n a b c : Int} (hn : okN n) (ha : 0 ≤ a) (ha2 : a < n) (hb : 0 ≤ b) (hb2 : b < n) (hc : 0 ≤ c) (hc2 : c < n) : ∃ k, (0 ≤ k ∧ k < n * n * n) ∧ k / n / n = a ∧ k / n % n = b ∧ k % n = c := by
  refine ⟨n * n * a + n * b + c, ?_⟩
  unfold okN at hn
  rcases hn with rfl | rfl | rfl | rfl | rfl | rfl <;> omega
theorem dig3_lt {n k k' : Int} (hn : okN n) (h1 : 0 ≤ k) (h2 : k < n * n * n) (h3 : 0 ≤ k') (h4 : k' < n * n * n) (h : k' / n / n < k / n / n ∨ (k' / n / n = k / n / n ∧ (k' / n % n < k / n % n ∨ (k' / n % n = k / n % n ∧ k' % n < k % n)))) : k' < k := by
  unfold okN at hn
  rcases hn with rfl | rfl | rfl | rfl | rfl | rfl <;> omega
def toldL (law b c : Int) : Bool := (decide (1 < law) || decide (b = 0)) && ((decide (1 < law) && decide (law < 5)) || decide (c = 0))
theorem told_iff {n law b c : Int} (hn : okN n) (hb : 0 ≤ b) (hb2 : b < n) (hc : 0 ≤ c) (hc2 : c < n) : toldL law b c = true ↔ b < lbS n law ∧ c < lcS n law := by
  have hl := okN_lo hn
  unfold toldL lbS lcS
  simp only [Bool.and_eq_true, Bool.or_eq_true, decide_eq_true_eq]
  by_cases h1 : 1 < law
  · by_cases h2 : law < 5
    · rw [if_pos h1, if_pos ⟨h1, h2⟩]; omega
    · rw [if_pos h1, if_neg (by omega)]; omega
  · rw [if_neg h1, if_neg (by omega)]; omega
def passL (n : Int) (tb : Int → Int → Int) (law k : Int) : Prop := toldL law (k / n % n) (k % n) = true → holdsS n tb law (k / n / n) (k / n % n) (k % n) = true
theorem scan_none {n : Int} {tb : Int → Int → Int} {law : Int} (hn : okN n) (h : ∀ k, 0 ≤ k → k < n * n * n → passL n tb law k) : witS n tb law = none := by
  have hl := okN_lo hn
  have hlb : lbS n law ≤ n := by unfold lbS; split <;> omega
  have hlc : lcS n law ≤ n := by unfold lcS; split <;> omega
  refine wit_none hn (fun a b c g1 g2 g3 g4 g5 g6 => ?_)
  obtain ⟨k, ⟨e1, e2⟩, rfl, rfl, rfl⟩ := dig3_of hn g1 g2 g3 (by omega) g5 (by omega)
  exact h k e1 e2 ((told_iff hn g3 (by omega) g5 (by omega)).mpr ⟨g4, g6⟩)
theorem scan_some {n : Int} {tb : Int → Int → Int} {law k : Int} (hn : okN n) (h1 : 0 ≤ k) (h2 : k < n * n * n) (ht : toldL law (k / n % n) (k % n) = true) (hf : holdsS n tb law (k / n / n) (k / n % n) (k % n) = false) (h : ∀ k', 0 ≤ k' → k' < k → passL n tb law k') : witS n tb law = some (k / n / n, k / n % n, k % n) := by
  have hl := okN_lo hn
  have hlb : lbS n law ≤ n := by unfold lbS; split <;> omega
  have hlc : lcS n law ≤ n := by unfold lcS; split <;> omega
  obtain ⟨⟨d1, d2⟩, ⟨d3, d4⟩, d5, d6⟩ := dig3 hn h1 h2
  obtain ⟨t1, t2⟩ := (told_iff hn d3 d4 d5 d6).mp ht
  refine wit_some hn d1 d2 d3 t1 d5 t2 hf (fun a b c g1 g2 g3 g4 g5 g6 hlt => ?_)
  obtain ⟨k', ⟨e1, e2⟩, rfl, rfl, rfl⟩ := dig3_of hn g1 g2 g3 (show b < n by omega) g5 (show c < n by omega)
  exact h k' e1 (dig3_lt hn h1 h2 e1 e2 hlt) ((told_iff hn g3 (by omega) g5 (by omega)).mpr ⟨g4, g6⟩)
theorem wcd_lt {n : Int} {tb : Int → Int → Int} {law : Int} (hn : okN n) : (wcdL (witS n tb law) = -1 ∧ wcode (witS n tb law) = -1) ∨ (∃ a b c, (0 ≤ a ∧ a < 9) ∧ (0 ≤ b ∧ b < 9) ∧ (0 ≤ c ∧ c < 9) ∧ wcdL (witS n tb law) = 100 * a + 10 * b + c ∧ wcode (witS n tb law) = 81 * a + 9 * b + c) := by
  have hl := okN_lo hn
  cases h : witS n tb law with
  | none => exact Or.inl ⟨rfl, rfl⟩
  | some w =>
    obtain ⟨a, b, c⟩ := w
    obtain ⟨h1, h2, h3⟩ := witS_in hn h
    exact Or.inr ⟨a, b, c, by omega, by omega, by omega, rfl, rfl⟩
/-! sets as sums -/
theorem or_add {s : Nat} {i : Nat} (h : s < 2 ^ i) : s ||| 2 ^ i = s + 2 ^ i := by
  rw [Nat.add_comm, Nat.or_comm]
  have h1 := Nat.two_pow_add_eq_or_of_lt (i := i) (b := s) h 1
  rw [Nat.mul_one] at h1
  exact h1.symm
/-- exchanged products, counted twice -/
theorem ex_sum (tb : Int → Int → Int) : ∀ k : Nat, sumF (fun a => sumF (fun b => if tb a b = tb b a then 0 else 1) k 0) k 0 = sumF (exR tb) k 0
  | 0 => rfl
  | k + 1 => by
    have last : ∀ (f : Int → Int), sumF f (k + 1) 0 = sumF f k 0 + f k := by
      intro f
      rw [cn_split f k 1 0, Int.zero_add]
      show _ + (f k + 0) = _
      omega
    rw [last, last (exR tb)]
    have e1 : sumF (fun a => sumF (fun b => if tb a b = tb b a then 0 else 1) (k + 1) 0) k 0 = sumF (fun a => sumF (fun b => if tb a b = tb b a then 0 else 1) k 0) k 0 + sumF (fun a => if tb a k = tb k a then 0 else 1) k 0 := by
      rw [← cn_add]
      exact sum_congr k 0 (fun a _ _ => last _)
    rw [e1, ex_sum tb k, last (fun b => if tb k b = tb b k then 0 else 1)]
    have e2 : sumF (fun a => if tb a k = tb k a then 0 else 1) k 0 = sumF (fun b => if tb k b = tb b k then (0 : Int) else 1) k 0 := sum_congr k 0 (fun a _ _ => by
      by_cases h : tb a k = tb k a
      · rw [if_pos h, if_pos h.symm]
      · rw [if_neg h, if_neg (fun h2 => h h2.symm)])
    have e3 : exR tb k = sumF (fun b => if tb k b = tb b k then (0 : Int) else 1) k 0 + sumF (fun b => if tb k b = tb b k then (0 : Int) else 1) k 0 := by
      unfold exR
      rw [Int.toNat_natCast, ← cn_add]
      refine sum_congr k 0 (fun b _ _ => ?_)
      by_cases h : tb k b = tb b k
      · rw [if_pos h, if_pos h]; rfl
      · rw [if_neg h, if_neg h]; rfl
    rw [e2, e3]
    show _ + _ + (_ + if tb k k = tb k k then (0 : Int) else 1) = _
    rw [if_pos rfl]
    omega
theorem ex_eq {n : Int} (tb : Int → Int → Int) : sumF (fun a => sumF (fun b => if tb a b = tb b a then 0 else 1) n.toNat 0) n.toNat 0 = exC n tb := ex_sum tb n.toNat
theorem tw_eq (tb : Int → Int → Int) : sumF (fun a => sumF (fun b => if twS a b = tb a b then 0 else 1) 9 0) 9 0 = twC tb := by
  rw [cn_swap (fun a b => if twS a b = tb a b then (0 : Int) else 1)]
  refine sum_congr 9 0 (fun b _ _ => sum_congr 9 0 (fun a _ _ => ?_))
  by_cases h : tb a b = twS a b
  · rw [if_pos h, if_pos h.symm]
  · rw [if_neg h, if_neg (fun h2 => h h2.symm)]
def sqM : Nat := setK (fun a => fpS 9 a a) 9 0 0
theorem sqM_b : ∀ b, b < 9 → sqM.testBit b = sqS 9 ((b : Nat) : Int) := by decide +kernel
theorem cube_c : ∀ a, a < 9 → fpS 9 ((a : Nat) : Int) (fpS 9 ((a : Nat) : Int) ((a : Nat) : Int)) = cubeS ((a : Nat) : Int) := by decide +kernel
