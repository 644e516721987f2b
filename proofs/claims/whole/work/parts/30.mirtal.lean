/-! What the loops of the model's mirrors need. -/
theorem fst_neg {P : Int → Bool} : ∀ (m : Nat) (i : Int), fstF P m i = -1 → 0 ≤ i → ∀ j, i ≤ j → j < i + m → P j = false
  | 0, i, _, _, j, g1, g2 => by omega
  | m + 1, i, h6, h7, j, g1, g2 => by
    unfold fstF at h6
    cases hp : P i with
    | true => rw [hp] at h6; have h8 : i = -1 := h6; omega
    | false =>
      rw [hp] at h6
      by_cases he : j = i
      · rw [he]; exact hp
      · exact fst_neg m (i + 1) h6 (by omega) j (by omega) (by omega)
theorem fst_low {P : Int → Bool} : ∀ (m : Nat) (i : Int), 0 ≤ i → fstF P m i ≠ -1 → ∀ j, i ≤ j → j < fstF P m i → P j = false
  | 0, i, _, h, j, g1, g2 => absurd rfl h
  | m + 1, i, h7, h, j, g1, g2 => by
    unfold fstF at h g2
    cases hp : P i with
    | true =>
      rw [hp] at g2
      have h8 : j < i := g2
      omega
    | false =>
      rw [hp] at h g2
      by_cases he : j = i
      · rw [he]; exact hp
      · exact fst_low m (i + 1) (by omega) h j (by omega) g2
theorem fr_ray {n : Int} {tb : Int → Int → Int} (hn : okN n) (ht : tbR n tb) (hP : plP n tb) {ax ce p : Int} (hce : 0 ≤ ce ∧ ce < NP n) (h1 : 0 ≤ p) (h2 : p < NP n) : rayS n tb ax ce p ≠ -1 ↔ frB n tb ax ce p = true := by
  cases fp : frB n tb ax ce p with
  | true =>
    have cp := pl_ln hn ht hP hce.1 hce.2 h1 h2
    rw [ray_v fp]
    exact ⟨fun _ => rfl, fun _ => by omega⟩
  | false =>
    rw [ray_n h1 h2 fp]
    exact ⟨fun h => absurd rfl h, fun h => by cases h⟩
/-- the base: the lowest free point -/
def baS (n : Int) (tb : Int → Int → Int) (ax ce : Int) : Int := loS n (rayS n tb ax ce) (-1)
/-- the helper: the lowest one off the base's line with the centre -/
def hlS (n : Int) (tb : Int → Int → Int) (ax ce : Int) : Int := loS n (rayS n tb ax ce) (lnC n tb ce (baS n tb ax ce))
theorem ba_sp {n : Int} {tb : Int → Int → Int} (hn : okN n) (ht : tbR n tb) (hP : plP n tb) {ax ce : Int} (hax : 0 ≤ ax ∧ ax < NP n) (hce : 0 ≤ ce ∧ ce < NP n) : frB n tb ax ce (baS n tb ax ce) = true ∧ ∀ j, 0 ≤ j → j < baS n tb ax ce → frB n tb ax ce j = false := by
  have hln := okN_lo hn
  have hq := sq_b hn
  have hnp : NP n = n * n + n + 1 := rfl
  obtain ⟨p, fp⟩ := ex_free hn ht hP hax hce
  have vp := (fr_i.mp fp).1
  unfold baS loS
  obtain ⟨v, hv⟩ : ∃ v, fstF (fun p => decide (rayS n tb ax ce p ≠ -1) && decide (rayS n tb ax ce p ≠ -1)) (NP n).toNat 0 = v := ⟨_, rfl⟩
  rw [hv]
  have hne : v ≠ -1 := by
    intro h
    have h1 := fst_neg _ _ (hv.trans h) (by omega) p vp.1 (by omega)
    have h2 := (fr_ray hn ht hP hce vp.1 vp.2).mpr fp
    rw [Bool.and_self, decide_eq_true h2] at h1
    cases h1
  rcases fst_in (p := fun p => decide (rayS n tb ax ce p ≠ -1) && decide (rayS n tb ax ce p ≠ -1)) (NP n).toNat 0 with h | ⟨h1, h2, h3⟩
  · exact absurd (hv.symm.trans h) hne
  · rw [hv] at h1 h2 h3
    rw [Bool.and_self] at h3
    refine ⟨(fr_ray hn ht hP hce h1 (by omega)).mp (of_decide_eq_true h3), fun j g1 g2 => ?_⟩
    have h4 := fst_low (P := fun p => decide (rayS n tb ax ce p ≠ -1) && decide (rayS n tb ax ce p ≠ -1)) (NP n).toNat 0 (by omega) (by rw [hv]; exact hne) j g1 (by rw [hv]; exact g2)
    rw [Bool.and_self] at h4
    have h5 := of_decide_eq_false h4
    cases h6 : frB n tb ax ce j with
    | false => rfl
    | true => exact absurd ((fr_ray hn ht hP hce g1 (by omega)).mpr h6) h5
theorem hl_sp {n : Int} {tb : Int → Int → Int} (hn : okN n) (ht : tbR n tb) (hP : plP n tb) {ax ce : Int} (hax : 0 ≤ ax ∧ ax < NP n) (hce : 0 ≤ ce ∧ ce < NP n) : frB n tb ax ce (hlS n tb ax ce) = true ∧ onC n tb (hlS n tb ax ce) (lnC n tb ce (baS n tb ax ce)) = false := by
  have hln := okN_lo hn
  have hq := sq_b hn
  have hnp : NP n = n * n + n + 1 := rfl
  have hb := (ba_sp hn ht hP hax hce).1
  have vb := (fr_i.mp hb).1
  have cb := pl_ln hn ht hP hce.1 hce.2 vb.1 vb.2
  obtain ⟨p, fp, op⟩ := ex_off2 hn ht hP hax hce hb
  have vp := (fr_i.mp fp).1
  have key : ∀ r, 0 ≤ r → r < NP n → ((decide (rayS n tb ax ce r ≠ -1) && decide (rayS n tb ax ce r ≠ lnC n tb ce (baS n tb ax ce))) = true ↔ frB n tb ax ce r = true ∧ onC n tb r (lnC n tb ce (baS n tb ax ce)) = false) := by
    intro r g1 g2
    rw [Bool.and_eq_true, decide_eq_true_iff, decide_eq_true_iff, fr_ray hn ht hP hce g1 g2]
    constructor
    · intro ⟨h1, h2⟩
      refine ⟨h1, ?_⟩
      cases h3 : onC n tb r (lnC n tb ce (baS n tb ax ce)) with
      | false => rfl
      | true => rw [ray_v h1] at h2; exact absurd (ray_ln hn ht hP h1 cb.2.1 h3) h2
    · intro ⟨h1, h2⟩
      refine ⟨h1, fun h3 => ?_⟩
      rw [ray_v h1] at h3
      have cr := pl_ln hn ht hP hce.1 hce.2 g1 g2
      rw [h3, h2] at cr
      exact absurd cr.2.2 (by decide)
  unfold hlS loS
  obtain ⟨v, hv⟩ : ∃ v, fstF (fun p => decide (rayS n tb ax ce p ≠ -1) && decide (rayS n tb ax ce p ≠ lnC n tb ce (baS n tb ax ce))) (NP n).toNat 0 = v := ⟨_, rfl⟩
  rw [hv]
  rcases fst_in (p := fun p => decide (rayS n tb ax ce p ≠ -1) && decide (rayS n tb ax ce p ≠ lnC n tb ce (baS n tb ax ce))) (NP n).toNat 0 with h | ⟨h1, h2, h3⟩
  · have h1 := fst_neg _ _ h (by omega) p vp.1 (by omega)
    have h2 := (key p vp.1 vp.2).mpr ⟨fp, op⟩
    rw [h2] at h1
    cases h1
  · rw [hv] at h1 h2 h3
    exact (key v h1 (by omega)).mp h3
theorem tal_v {n : Int} {tb : Int → Int → Int} (hn : okN n) (ht : tbR n tb) (hP : plP n tb) {ax ce : Int} (hax : 0 ≤ ax ∧ ax < NP n) (hce : 0 ≤ ce ∧ ce < NP n) : talS n tb ax ce = sumF (talX n tb (rayS n tb ax ce) (footX n tb (rayS n tb ax ce) ax (baS n tb ax ce) (lnC n tb ce (baS n tb ax ce)) (hlS n tb ax ce)) (lnC n tb ce (baS n tb ax ce)) (hlS n tb ax ce)) (n + 1).toNat 0 := by
  have hb := (ba_sp hn ht hP hax hce).1
  have vb := (fr_i.mp hb).1
  have e1 : rgS (rayS n tb ax ce) (baS n tb ax ce) = lnC n tb ce (baS n tb ax ce) := by rw [rg_v hn vb.1 vb.2, ray_v hb]
  unfold talS hlS
  rw [← e1]
  rfl
def im1 (n : Int) (tb : Int → Int → Int) (ax ce q to p : Int) : Int := if frB n tb ax ce p = true ∧ onC n tb p (lnC n tb ce q) = false then leM n tb ax ce q to p else p
theorem im1_n {n : Int} {tb : Int → Int → Int} {ax ce q to p : Int} (h : ¬ (frB n tb ax ce p = true ∧ onC n tb p (lnC n tb ce q) = false)) : im1 n tb ax ce q to p = p := if_neg h
theorem im1_y {n : Int} {tb : Int → Int → Int} {ax ce q to p : Int} (h : frB n tb ax ce p = true ∧ onC n tb p (lnC n tb ce q) = false) : im1 n tb ax ce q to p = leM n tb ax ce q to p := if_pos h
theorem im1_im {n : Int} {tb : Int → Int → Int} {ax ce q to an p : Int} (h : ¬ (frB n tb ax ce p = true ∧ onC n tb p (lnC n tb ce q) = true)) : im1 n tb ax ce q to p = imM n tb ax ce q to an p := by
  cases fp : frB n tb ax ce p with
  | false => rw [im_fx fp, im1_n (fun h9 => by rw [fp] at h9; exact absurd h9.1 (by decide))]
  | true =>
    cases hp : onC n tb p (lnC n tb ce q) with
    | false => rw [im_of fp hp, im1_y ⟨fp, hp⟩]
    | true => exact absurd ⟨fp, hp⟩ h
/-- a bit more in a row -/
theorem row_lo {x y : Int64} {P : Int → Bool} (h : rowP x y P) {k : Int} (h1 : 0 ≤ k) (h2 : k < 60) : rowP (x ||| (Int64.ofNat 1 <<< ((Int32.ofInt k).toInt64 &&& 63))) (y ||| Int64.ofNat 0) (fun j => P j || decide (j = k)) := by
  refine ⟨fun j => ?_, fun j => ?_⟩
  · rw [bitL_or, h.1 j, one_shl h1 (by omega)]
    by_cases hj : j < 60
    · rw [decide_eq_true hj]; rfl
    · rw [decide_eq_false hj, decide_eq_false (show ¬ (j : Int) = k by omega)]; rfl
  · rw [bitL_or, bitL_0, Bool.or_false, h.2 j]
    show _ = (decide (j < 31) && (P (60 + (j : Int)) || decide (60 + (j : Int) = k)))
    rw [decide_eq_false (show ¬ 60 + (j : Int) = k by omega), Bool.or_false]
theorem row_hi {x y : Int64} {P : Int → Bool} (h : rowP x y P) {k : Int} (h1 : 60 ≤ k) (h2 : k < 91) : rowP (x ||| Int64.ofNat 0) (y ||| (Int64.ofNat 1 <<< ((Int32.ofInt (k - 60)).toInt64 &&& 63))) (fun j => P j || decide (j = k)) := by
  refine ⟨fun j => ?_, fun j => ?_⟩
  · rw [bitL_or, bitL_0, Bool.or_false, h.1 j]
    by_cases hj : j < 60
    · show _ = (decide (j < 60) && (P (j : Int) || decide ((j : Int) = k)))
      rw [decide_eq_false (show ¬ (j : Int) = k by omega), Bool.or_false]
    · rw [decide_eq_false hj]; rfl
  · rw [bitL_or, h.2 j, one_shl (by omega) (by omega)]
    by_cases hj : j < 31
    · rw [decide_eq_true hj, decide_eq_decide.mpr (show (j : Int) = k - 60 ↔ 60 + (j : Int) = k by omega)]; rfl
    · rw [decide_eq_false hj, decide_eq_false (show ¬ (j : Int) = k - 60 by omega)]; rfl
theorem row_0 : rowP (Int64.ofNat 0) (Int64.ofNat 0) (fun _ => false) := ⟨fun k => by rw [bitL_0, Bool.and_false], fun k => by rw [bitL_0, Bool.and_false]⟩
/-- the images below some place -/
def imgP (G : Int → Int) (i : Int) (j : Int) : Bool := ! allF (fun r => ! decide (G r = j)) i.toNat 0
theorem imgP_i {G : Int → Int} {i j : Int} : imgP G i j = true ↔ ∃ r, 0 ≤ r ∧ r < i ∧ G r = j := by
  unfold imgP
  rw [Bool.not_eq_true', Bool.eq_false_iff]
  constructor
  · intro h
    refine Classical.byContradiction (fun h9 => h ((all_iff _ _).mpr (fun r g1 g2 => ?_)))
    cases h8 : decide (G r = j) with
    | false => rfl
    | true => exact absurd ⟨r, g1, by omega, of_decide_eq_true h8⟩ h9
  · intro ⟨r, g1, g2, g3⟩ h9
    have h8 := (all_iff _ _).mp h9 r g1 (by omega)
    rw [decide_eq_true g3] at h8
    cases h8
theorem imgP_s {G : Int → Int} {i : Int} (h : 0 ≤ i) (j : Int) : (imgP G i j || decide (j = G i)) = imgP G (i + 1) j := by
  rw [Bool.eq_iff_iff, Bool.or_eq_true, imgP_i, imgP_i, decide_eq_true_iff]
  constructor
  · rintro (⟨r, g1, g2, g3⟩ | h1)
    · exact ⟨r, g1, by omega, g3⟩
    · exact ⟨i, h, by omega, h1.symm⟩
  · intro ⟨r, g1, g2, g3⟩
    by_cases he : r = i
    · exact Or.inr (by rw [← g3, he])
    · exact Or.inl ⟨r, g1, by omega, g3⟩
/-- the lines on which the images of the first points of a line lie -/
def comP (n : Int) (tb : Int → Int → Int) (G : Int → Int) (l i j : Int) : Bool := allF (fun k => onC n tb (G (ptC n tb l k)) j) i.toNat 0
theorem comP_s {n : Int} {tb : Int → Int → Int} {G : Int → Int} {l i : Int} (h : 0 ≤ i) (j : Int) : (comP n tb G l i j && onC n tb (G (ptC n tb l i)) j) = comP n tb G l (i + 1) j := by
  unfold comP
  rw [Bool.eq_iff_iff, Bool.and_eq_true, all_iff, all_iff]
  constructor
  · intro ⟨h1, h2⟩ k g1 g2
    by_cases he : k = i
    · rw [he]; exact h2
    · exact h1 k g1 (by omega)
  · intro h1
    exact ⟨fun k g1 g2 => h1 k g1 (by omega), h1 i h (by omega)⟩
theorem com_1 {n : Int} {tb : Int → Int → Int} {G : Int → Int} {l : Int} (j : Int) : ptR n tb (G (ptC n tb l 0)) j = comP n tb G l 1 j := by
  show onC n tb (G (ptC n tb l 0)) j = (onC n tb (G (ptC n tb l 0)) j && true)
  rw [Bool.and_true]
theorem com_low {n : Int} {tb : Int → Int → Int} {G : Int → Int} {l : Int} (hn : okN n) (ht : tbR n tb) (hP : plP n tb) (hG : ∀ p, 0 ≤ p → p < NP n → 0 ≤ G p ∧ G p < NP n) (hi : ∀ p p', 0 ≤ p → p < NP n → 0 ≤ p' → p' < NP n → G p = G p' → p = p') (h1 : 0 ≤ l) (h2 : l < NP n) : 0 ≤ lowP (comP n tb G l (n + 1)) ↔ ldX n tb G l = true := by
  have hln := okN_lo hn
  have h91 := np_91 hn
  have he := pt_enum hn ht h1 h2
  have hv : ∀ i, 0 ≤ i → i ≤ n → rgS G (ptC n tb l i) = G (ptC n tb l i) := fun i g1 g2 => rg_v hn (he.1 i g1 g2).1 (he.1 i g1 g2).2.1
  have hw : ∀ i, 0 ≤ i → i ≤ n → 0 ≤ G (ptC n tb l i) ∧ G (ptC n tb l i) < NP n := fun i g1 g2 => hG _ (he.1 i g1 g2).1 (he.1 i g1 g2).2.1
  have w0 := hw 0 (by omega) (by omega)
  have w1 := hw 1 (by omega) (by omega)
  have hL := pl_ln hn ht hP w0.1 w0.2 w1.1 w1.2
  rw [low_pos]
  unfold ldX comP
  rw [hv 0 (by omega) (by omega), hv 1 (by omega) (by omega), all_iff]
  constructor
  · intro ⟨m, hm, ha⟩ i g1 g2
    have h3 := (all_iff _ _).mp ha
    have hne : G (ptC n tb l 0) ≠ G (ptC n tb l 1) := fun h9 => by
      have a0 := he.1 0 (by omega) (by omega)
      have a1 := he.1 1 (by omega) (by omega)
      have h3 := hi _ _ a0.1 a0.2.1 a1.1 a1.2.1 h9
      have h4 := he.2.1 0 1 (by omega) (by omega) (by omega)
      omega
    rw [pl_ln_u hn ht hP hne (h3 0 (by omega) (by omega)) (h3 1 (by omega) (by omega)), hv i (by omega) (by omega)]
    exact h3 i (by omega) (by omega)
  · intro h
    refine ⟨lnC n tb (G (ptC n tb l 0)) (G (ptC n tb l 1)), ⟨hL.1.1, by omega⟩, (all_iff _ _).mpr (fun i g1 g2 => ?_)⟩
    rcases (show i = 0 ∨ i = 1 ∨ 2 ≤ i by omega) with h3 | h3 | h3
    · rw [h3]; exact hL.2.1
    · rw [h3]; exact hL.2.2
    · have h4 := h i h3 (by omega)
      rw [hv i g1 (by omega)] at h4
      exact h4
theorem low_on {P : Int → Bool} (h : 0 ≤ lowP P) : P (lowP P) = true := by
  unfold lowP onfS at h ⊢
  rcases fst_in (p := P) 91 0 with h1 | ⟨h1, h2, h3⟩
  · rw [h1] at h; exact absurd h (by decide)
  · rw [if_neg (by omega)]; exact h3
theorem com_ce {n : Int} {tb : Int → Int → Int} {G : Int → Int} {ce l : Int} (hn : okN n) (ht : tbR n tb) (hP : plP n tb) (hi : ∀ p p', 0 ≤ p → p < NP n → 0 ≤ p' → p' < NP n → G p = G p' → p = p') (hray : ∀ l p, onC n tb ce l = true → onC n tb p l = true → onC n tb (G p) l = true) (h1 : 0 ≤ l) (h2 : l < NP n) (hc : onC n tb ce l = true) (h : 0 ≤ lowP (comP n tb G l (n + 1))) : lowP (comP n tb G l (n + 1)) = l := by
  have hln := okN_lo hn
  have he := pt_enum hn ht h1 h2
  have h3 := (all_iff _ _).mp (show allF (fun k => onC n tb (G (ptC n tb l k)) (lowP (comP n tb G l (n + 1)))) (n + 1).toNat 0 = true from low_on h)
  have a0 := he.1 0 (by omega) (by omega)
  have a1 := he.1 1 (by omega) (by omega)
  have hne : G (ptC n tb l 0) ≠ G (ptC n tb l 1) := fun h9 => by
    have h3 := hi _ _ a0.1 a0.2.1 a1.1 a1.2.1 h9
    have h4 := he.2.1 0 1 (by omega) (by omega) (by omega)
    omega
  exact eq_ln hn ht hP hne (h3 0 (by omega) (by omega)) (h3 1 (by omega) (by omega)) (hray l _ hc a0.2.2) (hray l _ hc a1.2.2)
theorem im_ray {n : Int} {tb : Int → Int → Int} {ax ce q to an : Int} (H : mpP n tb ax ce q to an) {l p : Int} (hc : onC n tb ce l = true) (hp : onC n tb p l = true) : onC n tb (imM n tb ax ce q to an p) l = true := by
  obtain ⟨⟨hn, ht, hP⟩, -⟩ := id H
  cases fp : frB n tb ax ce p with
  | false => rw [im_fx fp]; exact hp
  | true =>
    have h1 := (im_sp H fp).2
    rw [ray_ln hn ht hP fp hc hp] at h1
    exact h1
