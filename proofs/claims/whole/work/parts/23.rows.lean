/-! Rows of bits: two longs, of sixty bits and of thirty-one. -/
def bitL (x : Int64) (k : Nat) : Bool := x.toBitVec.getLsbD k
theorem bitL_and (x y : Int64) (k : Nat) : bitL (x &&& y) k = (bitL x k && bitL y k) := by
  unfold bitL
  rw [Int64.toBitVec_and, BitVec.getLsbD_and]
theorem bitL_or (x y : Int64) (k : Nat) : bitL (x ||| y) k = (bitL x k || bitL y k) := by
  unfold bitL
  rw [Int64.toBitVec_or, BitVec.getLsbD_or]
theorem bitL_ge (x : Int64) {k : Nat} (h : 64 ≤ k) : bitL x k = false := BitVec.getLsbD_of_ge x.toBitVec k h
theorem bitL_0 (k : Nat) : bitL (Int64.ofNat 0) k = false := by
  by_cases h : k < 64
  · have h1 : ∀ k, k < 64 → bitL (Int64.ofNat 0) k = false := by decide +kernel
    exact h1 k h
  · exact bitL_ge _ (by omega)
theorem bitL_1 (k : Nat) : bitL (Int64.ofNat 1) k = decide (k = 0) := by
  by_cases h : k < 64
  · have h1 : ∀ k, k < 64 → bitL (Int64.ofNat 1) k = decide (k = 0) := by decide +kernel
    exact h1 k h
  · rw [bitL_ge _ (by omega), decide_eq_false (by omega)]
theorem sh_63 {k : Int} (h1 : 0 ≤ k) (h2 : k < 64) : ((Int32.ofInt k).toInt64 &&& 63) = Int64.ofNat k.toNat := by
  have h : ∀ k, k < 64 → ((Int32.ofInt ((k : Nat) : Int)).toInt64 &&& 63) = Int64.ofNat k := by decide +kernel
  have h3 := h k.toNat (by omega)
  rw [Int.toNat_of_nonneg h1] at h3
  exact h3
theorem smod_k : ∀ k, k < 64 → ((Int64.ofNat k).toBitVec.smod 64).toNat = k := by decide +kernel
theorem shr_bit (x : Int64) {k : Nat} (hk : k < 64) : (x >>> Int64.ofNat k) &&& Int64.ofNat 1 = bif bitL x k then Int64.ofNat 1 else Int64.ofNat 0 := by
  apply Int64.toBitVec_inj.mp
  apply BitVec.eq_of_getLsbD_eq
  intro i hi
  rw [Int64.toBitVec_and, BitVec.getLsbD_and, Int64.toBitVec_shiftRight, BitVec.getLsbD_sshiftRight', smod_k k hk]
  show (_ && bitL (Int64.ofNat 1) i) = bitL (bif bitL x k then Int64.ofNat 1 else Int64.ofNat 0) i
  rw [bitL_1]
  by_cases h0 : i = 0
  · subst h0
    rw [decide_eq_true rfl, Bool.and_true, Nat.add_zero, if_pos hk, decide_eq_false (show ¬ 64 ≤ 0 by decide)]
    show x.toBitVec.getLsbD k = _
    rw [show x.toBitVec.getLsbD k = bitL x k from rfl]
    cases bitL x k
    · exact (bitL_0 0).symm
    · exact (bitL_1 0).symm
  · rw [decide_eq_false h0, Bool.and_false]
    cases bitL x k
    · exact (bitL_0 i).symm
    · show false = bitL (Int64.ofNat 1) i
      rw [bitL_1, decide_eq_false h0]
theorem shl_bit : ∀ k, k < 64 → ∀ j, j < 64 → bitL (Int64.ofNat 1 <<< Int64.ofNat k) j = decide (j = k) := by decide +kernel
theorem one_shl {k : Int} (h1 : 0 ≤ k) (h2 : k < 64) (j : Nat) : bitL (Int64.ofNat 1 <<< ((Int32.ofInt k).toInt64 &&& 63)) j = decide ((j : Int) = k) := by
  rw [sh_63 h1 h2]
  by_cases h : j < 64
  · rw [shl_bit k.toNat (by omega) j h]
    exact decide_eq_decide.mpr (by omega)
  · rw [bitL_ge _ (by omega), decide_eq_false (by omega)]
theorem lgc_0 (x y : Int64) : (lg_cmp x y).toInt = 0 ↔ x = y := by
  rw [← lg_cmp_eq]
  refine ⟨fun h => Int32.toInt_inj.mp h, fun h => ?_⟩
  rw [h]
  rfl
theorem lgc_R (x y : Int64) : m_R (lg_cmp x y).toInt := by
  unfold lg_cmp
  (repeat' split) <;> exact ⟨by decide, by decide⟩
theorem lgc_bit (x : Int64) {k : Int} (h1 : 0 ≤ k) (h2 : k < 64) : (lg_cmp ((x >>> ((Int32.ofInt k).toInt64 &&& 63)) &&& Int64.ofNat 1) (Int64.ofNat 1)).toInt = 0 ↔ bitL x k.toNat = true := by
  rw [lgc_0, sh_63 h1 h2, shr_bit x (by omega)]
  cases bitL x k.toNat
  · exact ⟨fun h => absurd h (by decide), fun h => by cases h⟩
  · exact ⟨fun _ => rfl, fun _ => rfl⟩
/-- a row: which of the 91 are in it -/
def rowP (x y : Int64) (P : Int → Bool) : Prop := (∀ k : Nat, bitL x k = (decide (k < 60) && P k)) ∧ ∀ k : Nat, bitL y k = (decide (k < 31) && P (60 + k))
theorem rowP_and {x y x' y' : Int64} {P Q : Int → Bool} (h : rowP x y P) (h' : rowP x' y' Q) : rowP (x &&& x') (y &&& y') (fun k => P k && Q k) := by
  refine ⟨fun k => ?_, fun k => ?_⟩
  · rw [bitL_and, h.1 k, h'.1 k]
    cases decide (k < 60) <;> simp
  · rw [bitL_and, h.2 k, h'.2 k]
    cases decide (k < 31) <;> simp
theorem rowP_lo {x y : Int64} {P : Int → Bool} (h : rowP x y P) {k : Int} (h1 : 0 ≤ k) (h2 : k < 60) : bitL x k.toNat = P k := by
  rw [h.1, decide_eq_true (by omega), Int.toNat_of_nonneg h1, Bool.true_and]
theorem rowP_hi {x y : Int64} {P : Int → Bool} (h : rowP x y P) {k : Int} (h1 : 0 ≤ k) (h2 : k < 31) : bitL y k.toNat = P (60 + k) := by
  rw [h.2, decide_eq_true (by omega), Int.toNat_of_nonneg h1, Bool.true_and]
theorem cn_shift (f : Int → Int) (c : Int) : ∀ (k : Nat) (i : Int), sumF f k (c + i) = sumF (fun j => f (c + j)) k i
  | 0, _ => rfl
  | k + 1, i => by
    unfold sumF
    rw [← cn_shift f c k (i + 1), show c + i + 1 = c + (i + 1) by omega]
theorem bit_nat (z : Int64) (k : Nat) : z.toBitVec.toNat.testBit k = bitL z k := rfl
theorem bits_zero {z : Int64} {P : Int → Bool} {m : Nat} (hm : m < 64) (h : ∀ k : Nat, bitL z k = (decide (k < m) && P k)) : z = Int64.ofNat 0 ↔ cnP P m 0 = 0 := by
  rw [cnP_zero]
  refine ⟨fun h1 j g1 g2 => ?_, fun h1 => ?_⟩
  · have h2 := h j.toNat
    rw [h1, bitL_0, decide_eq_true (by omega), Bool.true_and, Int.toNat_of_nonneg g1] at h2
    exact h2.symm
  · apply Int64.toBitVec_inj.mp
    apply BitVec.eq_of_getLsbD_eq
    intro i hi
    show bitL z i = bitL (Int64.ofNat 0) i
    rw [bitL_0, h i]
    by_cases h3 : i < m
    · rw [h1 i (by omega) (by omega), Bool.and_false]
    · rw [decide_eq_false h3, Bool.false_and]
theorem bits_one {z : Int64} {P : Int → Bool} {m : Nat} (hm : m < 64) (h : ∀ k : Nat, bitL z k = (decide (k < m) && P k)) : (¬ z = Int64.ofNat 0 ∧ z &&& (z - Int64.ofNat 1) = Int64.ofNat 0) ↔ cnP P m 0 = 1 := by
  have hz : z = Int64.ofNat 0 ↔ z.toBitVec.toNat = 0 := by
    refine ⟨fun h1 => by rw [h1]; rfl, fun h1 => ?_⟩
    apply Int64.toBitVec_inj.mp
    apply BitVec.eq_of_toNat_eq
    rw [h1]; rfl
  have hs : ¬ z.toBitVec.toNat = 0 → ((z &&& (z - Int64.ofNat 1)).toBitVec.toNat = z.toBitVec.toNat &&& (z.toBitVec.toNat - 1)) := by
    intro h1
    rw [Int64.toBitVec_and, BitVec.toNat_and, Int64.toBitVec_sub, BitVec.toNat_sub]
    congr 1
    show (2 ^ 64 - 1 + z.toBitVec.toNat) % 2 ^ 64 = _
    have h2 : z.toBitVec.toNat < 2 ^ 64 := z.toBitVec.isLt
    omega
  have hy : z &&& (z - Int64.ofNat 1) = Int64.ofNat 0 ↔ (z &&& (z - Int64.ofNat 1)).toBitVec.toNat = 0 := by
    refine ⟨fun h1 => by rw [h1]; rfl, fun h1 => ?_⟩
    apply Int64.toBitVec_inj.mp
    apply BitVec.eq_of_toNat_eq
    rw [h1]; rfl
  have hp : (¬ z = Int64.ofNat 0 ∧ z &&& (z - Int64.ofNat 1) = Int64.ofNat 0) ↔ z.toBitVec.toNat.isPowerOfTwo := by
    rw [← Nat.ne_zero_and_sub_one_eq_zero_iff_isPowerOfTwo]
    refine ⟨fun ⟨h1, h2⟩ => ?_, fun ⟨h1, h2⟩ => ?_⟩
    · have h3 : ¬ z.toBitVec.toNat = 0 := fun h4 => h1 (hz.mpr h4)
      exact ⟨h3, by rw [← hs h3]; exact hy.mp h2⟩
    · exact ⟨fun h4 => h1 (hz.mp h4), hy.mpr (by rw [hs h1]; exact h2)⟩
  rw [hp, cnP_one]
  have hb : ∀ j : Int, 0 ≤ j → j < (m : Int) → P j = z.toBitVec.toNat.testBit j.toNat := by
    intro j g1 g2
    have h2 := h j.toNat
    rw [decide_eq_true (by omega), Bool.true_and, Int.toNat_of_nonneg g1] at h2
    exact h2.symm
  refine ⟨fun ⟨e, he⟩ => ?_, fun ⟨j, h1, h2⟩ => ⟨j.toNat, ?_⟩⟩
  · have h1 : ∀ k : Nat, z.toBitVec.toNat.testBit k = decide (e = k) := fun k => by rw [he]; exact Nat.testBit_two_pow
    have h2 : e < m := by
      have h3 := h e
      rw [← bit_nat, h1 e, decide_eq_true rfl] at h3
      exact of_decide_eq_true (Bool.and_eq_true_iff.mp h3.symm).1
    refine ⟨e, ⟨by omega, by omega, ?_⟩, fun j' g1 g2 g3 => ?_⟩
    · rw [hb e (by omega) (by omega), h1, Int.toNat_natCast]
      exact decide_eq_true rfl
    · rw [hb j' g1 (by omega), h1] at g3
      have g4 := of_decide_eq_true g3
      omega
  · apply Nat.eq_of_testBit_eq
    intro k
    rw [Nat.testBit_two_pow, bit_nat, h k]
    by_cases hk : k < m
    · rw [decide_eq_true hk, Bool.true_and]
      cases hP : P k with
      | true =>
        have h3 := h2 k (by omega) (by omega) hP
        exact (decide_eq_true (by omega)).symm
      | false =>
        refine (decide_eq_false (fun h3 => ?_)).symm
        rw [show (k : Int) = j by omega, h1.2.2] at hP
        cases hP
    · rw [decide_eq_false hk, Bool.false_and]
      exact (decide_eq_false (by omega)).symm
theorem row_cnt {P : Int → Bool} : cnP P 91 0 = cnP P 60 0 + cnP (fun k => P (60 + k)) 31 0 := by
  unfold cnP
  rw [show (91 : Nat) = 60 + 31 by decide, cn_split]
  congr 1
/-- what is lowest in a row -/
def lowP (P : Int → Bool) : Int := onfS (fstF P 91 0)
theorem fst2_t {P : Int → Bool} {i : Int} (h : i < 31) (hp : P (60 + i) = true) : fstF P (31 - i).toNat (60 + i) = 60 + i := by
  rw [nat_step h]
  show (bif P (60 + i) then 60 + i else fstF P (31 - (i + 1)).toNat (60 + i + 1)) = _
  rw [hp]; rfl
theorem fst2_f {P : Int → Bool} {i : Int} (h : i < 31) (hp : P (60 + i) = false) : fstF P (31 - i).toNat (60 + i) = fstF P (31 - (i + 1)).toNat (60 + (i + 1)) := by
  rw [nat_step h, show 60 + (i + 1) = 60 + i + 1 by omega]
  show (bif P (60 + i) then 60 + i else fstF P (31 - (i + 1)).toNat (60 + i + 1)) = _
  rw [hp]; rfl
theorem fst1_t {P : Int → Bool} {i : Int} (h : i < 60) (hp : P i = true) : fstF P (91 - i).toNat i = i := fst_t (by omega) hp
theorem fst1_f {P : Int → Bool} {i : Int} (h : i < 60) (hp : P i = false) : fstF P (91 - i).toNat i = fstF P (91 - (i + 1)).toNat (i + 1) := fst_f (by omega) hp
/-- all rows of a ring: lines from 0 on, points from 91 on -/
def lnR (n : Int) (tb : Int → Int → Int) (l : Int) : Int → Bool := fun p => onC n tb p l
def ptR (n : Int) (tb : Int → Int → Int) (p : Int) : Int → Bool := fun l => onC n tb p l
def rowsB (n : Int) (tb : Int → Int → Int) (B : (Nat → Int64) × (Nat → Int64)) : Prop :=
  ∀ k : Int, 0 ≤ k → k < 91 → rowP (B.1 k.toNat) (B.2 k.toNat) (lnR n tb k) ∧ rowP (B.1 (91 + k).toNat) (B.2 (91 + k).toNat) (ptR n tb k)
/-- rows under way: the lines below l, of line l the points below p -/
def drwP (n : Int) (tb : Int → Int → Int) (l p : Int) (p' l' : Int) : Bool := onC n tb p' l' && (decide (l' < l) || (decide (l' = l) && decide (p' < p)))
def drwB (n : Int) (tb : Int → Int → Int) (l p : Int) (B : (Nat → Int64) × (Nat → Int64)) : Prop :=
  ∀ k : Int, 0 ≤ k → k < 91 → rowP (B.1 k.toNat) (B.2 k.toNat) (fun p' => drwP n tb l p p' k) ∧ rowP (B.1 (91 + k).toNat) (B.2 (91 + k).toNat) (fun l' => drwP n tb l p k l')
/-- a bit is laid in a row -/
def markB (B : (Nat → Int64) × (Nat → Int64)) (at_ k : Int) : (Nat → Int64) × (Nat → Int64) :=
  if k < 60 then (vp_updL B.1 at_.toNat (B.1 at_.toNat ||| (Int64.ofNat 1 <<< ((Int32.ofInt k).toInt64 &&& 63))), B.2) else (B.1, vp_updL B.2 at_.toNat (B.2 at_.toNat ||| (Int64.ofNat 1 <<< ((Int32.ofInt (k - 60)).toInt64 &&& 63))))
theorem updL_s (f : Nat → Int64) (j : Nat) (v : Int64) : vp_updL f j v j = v := by unfold vp_updL; simp
theorem updL_n (f : Nat → Int64) {j k : Nat} (v : Int64) (h : ¬ k = j) : vp_updL f j v k = f k := by unfold vp_updL; simp [h]
theorem mark_n {B : (Nat → Int64) × (Nat → Int64)} {at_ k : Int} {r : Nat} (h : ¬ r = at_.toNat) : (markB B at_ k).1 r = B.1 r ∧ (markB B at_ k).2 r = B.2 r := by
  unfold markB
  split
  · exact ⟨updL_n _ _ h, rfl⟩
  · exact ⟨rfl, updL_n _ _ h⟩
theorem mark_s {B : (Nat → Int64) × (Nat → Int64)} {at_ k : Int} {P : Int → Bool} (h1 : 0 ≤ k) (h2 : k < 91) (h : rowP (B.1 at_.toNat) (B.2 at_.toNat) P) : rowP ((markB B at_ k).1 at_.toNat) ((markB B at_ k).2 at_.toNat) (fun j => P j || decide (j = k)) := by
  unfold markB
  split
  next hk =>
    refine ⟨fun j => ?_, fun j => ?_⟩
    · show bitL (vp_updL B.1 at_.toNat _ at_.toNat) j = _
      rw [updL_s, bitL_or, h.1 j, one_shl h1 (by omega)]
      by_cases hj : j < 60
      · rw [decide_eq_true hj]; rfl
      · rw [decide_eq_false hj, decide_eq_false (show ¬ (j : Int) = k by omega)]; rfl
    · show bitL (B.2 at_.toNat) j = _
      rw [h.2 j]
      show _ = (decide (j < 31) && (P (60 + (j : Int)) || decide (60 + (j : Int) = k)))
      rw [decide_eq_false (show ¬ 60 + (j : Int) = k by omega), Bool.or_false]
  next hk =>
    refine ⟨fun j => ?_, fun j => ?_⟩
    · show bitL (B.1 at_.toNat) j = _
      rw [h.1 j]
      by_cases hj : j < 60
      · show _ = (decide (j < 60) && (P (j : Int) || decide ((j : Int) = k)))
        rw [decide_eq_false (show ¬ (j : Int) = k by omega), Bool.or_false]
      · rw [decide_eq_false hj, Bool.false_and, Bool.false_and]
    · show bitL (vp_updL B.2 at_.toNat _ at_.toNat) j = _
      rw [updL_s, bitL_or, h.2 j, one_shl (by omega) (by omega)]
      by_cases hj : j < 31
      · rw [decide_eq_true hj, decide_eq_decide.mpr (show (j : Int) = k - 60 ↔ 60 + (j : Int) = k by omega)]; rfl
      · rw [decide_eq_false hj, decide_eq_false (show ¬ (j : Int) = k - 60 by omega)]; rfl
theorem rowP_congr {x y : Int64} {P Q : Int → Bool} (h : rowP x y P) (he : ∀ j, 0 ≤ j → j < 91 → P j = Q j) : rowP x y Q := by
  refine ⟨fun k => ?_, fun k => ?_⟩
  · rw [h.1 k]
    by_cases hk : k < 60
    · rw [he k (by omega) (by omega)]
    · rw [decide_eq_false hk]; rfl
  · rw [h.2 k]
    by_cases hk : k < 31
    · rw [he (60 + k) (by omega) (by omega)]
    · rw [decide_eq_false hk]; rfl
theorem drw_f {n : Int} {tb : Int → Int → Int} {l p : Int} {B : (Nat → Int64) × (Nat → Int64)} (h : drwB n tb l p B) (ho : onC n tb p l = false) : drwB n tb l (p + 1) B := by
  have hd : ∀ p' l', drwP n tb l p p' l' = drwP n tb l (p + 1) p' l' := by
    intro p' l'
    unfold drwP
    by_cases h1 : p' = p ∧ l' = l
    · rw [h1.1, h1.2, ho]; rfl
    · congr 2
      by_cases h2 : l' = l
      · rw [decide_eq_decide.mpr (show p' < p ↔ p' < p + 1 by omega)]
      · rw [decide_eq_false h2]; rfl
  intro k h1 h2
  exact ⟨rowP_congr (h k h1 h2).1 (fun j _ _ => hd j k), rowP_congr (h k h1 h2).2 (fun j _ _ => hd k j)⟩
theorem drw_t {n : Int} {tb : Int → Int → Int} {l p : Int} {B : (Nat → Int64) × (Nat → Int64)} (h : drwB n tb l p B) (ho : onC n tb p l = true) (hl : 0 ≤ l) (hl2 : l < 91) (hp : 0 ≤ p) (hp2 : p < 91) : drwB n tb l (p + 1) (markB (markB B l p) (91 + p) l) := by
  have hd : ∀ p' l', drwP n tb l (p + 1) p' l' = (drwP n tb l p p' l' || (decide (p' = p) && decide (l' = l))) := by
    intro p' l'
    unfold drwP
    by_cases h2 : l' = l
    · rw [h2, decide_eq_true (show l = l from rfl), decide_eq_false (show ¬ l < l by omega)]
      by_cases h3 : p' = p
      · rw [h3, ho, decide_eq_true (show p = p from rfl), decide_eq_true (show p < p + 1 by omega)]
        simp
      · have h4 : decide (p' < p) = decide (p' < p + 1) := decide_eq_decide.mpr (by omega)
        rw [decide_eq_false h3, h4]
        simp
    · rw [decide_eq_false h2]
      simp
  intro k h1 h2
  have hk := h k h1 h2
  constructor
  · have n1 := mark_n (B := markB B l p) (at_ := 91 + p) (k := l) (r := k.toNat) (by omega)
    rw [n1.1, n1.2]
    by_cases he : k = l
    · subst he
      refine rowP_congr (mark_s (k := p) hp hp2 hk.1) (fun j _ _ => ?_)
      rw [hd, decide_eq_true (show k = k from rfl), Bool.and_true]
    · have n2 := mark_n (B := B) (at_ := l) (k := p) (r := k.toNat) (by omega)
      rw [n2.1, n2.2]
      refine rowP_congr hk.1 (fun j _ _ => ?_)
      rw [hd, decide_eq_false he, Bool.and_false, Bool.or_false]
  · have n2 := mark_n (B := B) (at_ := l) (k := p) (r := (91 + k).toNat) (by omega)
    by_cases he : k = p
    · subst he
      refine rowP_congr (mark_s (B := markB B l k) (at_ := 91 + k) (k := l) hl hl2 (by rw [n2.1, n2.2]; exact hk.2)) (fun j _ _ => ?_)
      rw [hd, decide_eq_true (show k = k from rfl), Bool.true_and]
    · have n1 := mark_n (B := markB B l p) (at_ := 91 + p) (k := l) (r := (91 + k).toNat) (by omega)
      rw [n1.1, n1.2, n2.1, n2.2]
      refine rowP_congr hk.2 (fun j _ _ => ?_)
      rw [hd, decide_eq_false he, Bool.false_and, Bool.or_false]
theorem drw_r {n : Int} {tb : Int → Int → Int} {l : Int} {B : (Nat → Int64) × (Nat → Int64)} (h : drwB n tb l (NP n) B) : drwB n tb (l + 1) 0 B := by
  have hd : ∀ p' l', drwP n tb l (NP n) p' l' = (drwP n tb (l + 1) 0 p' l' ) ∨ ¬ (0 ≤ p') := by
    intro p' l'
    by_cases h0 : 0 ≤ p'
    · left
      unfold drwP
      cases ho : onC n tb p' l' with
      | false => rfl
      | true =>
        have h1 := onC_in ho
        rw [decide_eq_true h1.1.2, decide_eq_false (show ¬ p' < 0 by omega), Bool.and_true, Bool.and_false, Bool.or_false]
        by_cases h2 : l' < l
        · rw [decide_eq_true h2, decide_eq_true (show l' < l + 1 by omega)]; rfl
        · rw [decide_eq_false h2, decide_eq_decide.mpr (show l' = l ↔ l' < l + 1 by omega)]; rfl
    · exact Or.inr h0
  intro k h1 h2
  exact ⟨rowP_congr (h k h1 h2).1 (fun j g1 _ => (hd j k).resolve_right (by omega)), rowP_congr (h k h1 h2).2 (fun j _ _ => (hd k j).resolve_right (by omega))⟩
theorem drw_e {n : Int} {tb : Int → Int → Int} {B : (Nat → Int64) × (Nat → Int64)} (h : drwB n tb (NP n) 0 B) : rowsB n tb B := by
  have hd : ∀ p' l', drwP n tb (NP n) 0 p' l' = onC n tb p' l' := by
    intro p' l'
    unfold drwP
    cases ho : onC n tb p' l' with
    | false => rfl
    | true =>
      have h1 := onC_in ho
      rw [decide_eq_true h1.2.2]; rfl
  intro k h1 h2
  exact ⟨rowP_congr (h k h1 h2).1 (fun j _ _ => hd j k), rowP_congr (h k h1 h2).2 (fun j _ _ => hd k j)⟩
theorem drw_0 {n : Int} {tb : Int → Int → Int} {B : (Nat → Int64) × (Nat → Int64)} (h : ∀ k : Nat, k < 182 → B.1 k = Int64.ofNat 0 ∧ B.2 k = Int64.ofNat 0) : drwB n tb 0 0 B := by
  have hd : ∀ p' l', 0 ≤ p' → 0 ≤ l' → drwP n tb 0 0 p' l' = false := by
    intro p' l' h1 h2
    unfold drwP
    rw [decide_eq_false (show ¬ l' < 0 by omega), decide_eq_false (show ¬ p' < 0 by omega), Bool.and_false, Bool.or_false, Bool.and_false]
  have hr : ∀ (k : Nat) (P : Int → Bool), k < 182 → (∀ j, 0 ≤ j → P j = false) → rowP (B.1 k) (B.2 k) P := by
    intro k P hk hP
    rw [(h k hk).1, (h k hk).2]
    exact ⟨fun j => by rw [bitL_0, hP j (by omega), Bool.and_false], fun j => by rw [bitL_0, hP _ (by omega), Bool.and_false]⟩
  intro k h1 h2
  exact ⟨hr _ _ (by omega) (fun j g => hd j k g h1), hr _ _ (by omega) (fun j g => hd k j h1 g)⟩
