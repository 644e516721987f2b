/-! Pairs that have not just one in common: the model looks at all pairs of rows, the class at the differences of products. -/
theorem on_aa {n : Int} {tb : Int → Int → Int} {p l : Int} (hn : okN n) (hp : 0 ≤ p) (hp2 : p < n * n) (hl : 0 ≤ l) (hl2 : l < n * n) : onC n tb p l = true ↔ p % n = sumS n (tb (p / n) (l / n)) (l % n) := by
  have hl3 := okN_lo hn
  have hnp : NP n = n * n + n + 1 := rfl
  rw [onC_v hp (by omega) hl (by omega), if_neg (by omega), if_pos hp2, decide_eq_true_iff]
theorem on_ai {n : Int} {tb : Int → Int → Int} {p l : Int} (hn : okN n) (hp : 0 ≤ p) (hp2 : p < n * n) (hl : n * n ≤ l) (hl2 : l < NP n) : onC n tb p l = true ↔ l = n * n + p / n := by
  have hl3 := okN_lo hn
  have hq := sq_b hn
  have hnp : NP n = n * n + n + 1 := rfl
  rw [onC_v hp (by omega) (by omega) hl2, if_pos hl]
  split
  next h => exact ⟨fun _ => by omega, fun _ => rfl⟩
  next h => exact ⟨fun h9 => by have := of_decide_eq_true h9; omega, fun h9 => absurd h9 (by omega)⟩
theorem on_ia {n : Int} {tb : Int → Int → Int} {p l : Int} (hn : okN n) (hp : n * n ≤ p) (hp2 : p < NP n) (hl : 0 ≤ l) (hl2 : l < n * n) : onC n tb p l = true ↔ p = n * n + l / n := by
  have hl3 := okN_lo hn
  have hq := sq_b hn
  have hnp : NP n = n * n + n + 1 := rfl
  rw [onC_v (by omega) hp2 hl (by omega), if_neg (by omega), if_neg (by omega), decide_eq_true_iff]
theorem on_ii {n : Int} {tb : Int → Int → Int} {p l : Int} (hn : okN n) (hp : n * n ≤ p) (hp2 : p < NP n) (hl : n * n ≤ l) (hl2 : l < NP n) : onC n tb p l = true ↔ l = n * n + n ∨ p = n * n + n := by
  have hl3 := okN_lo hn
  have hq := sq_b hn
  have hnp : NP n = n * n + n + 1 := rfl
  have h1 := div_top (n := n) (p := p) hn
  have h2 := div_end (n := n) (p := p) hn
  rw [onC_v (by omega) hp2 (by omega) hl2, if_pos hl]
  split
  next h => exact ⟨fun _ => by omega, fun _ => rfl⟩
  next h => exact ⟨fun h9 => Or.inr (of_decide_eq_true h9), fun h9 => decide_eq_true (by omega)⟩
theorem one_of {P Q : Int → Bool} {x : Int} (h1 : 0 ≤ x) (h2 : x < 91) (hP : P x = true) (hQ : Q x = true) (hu : ∀ x', P x' = true → Q x' = true → x' = x) : cnP (fun x => P x && Q x) 91 0 = 1 :=
  (cnP_one 91 0).mpr ⟨x, ⟨h1, by omega, by rw [hP, hQ]; rfl⟩, fun x' _ _ h3 => hu x' (Bool.and_eq_true_iff.mp h3).1 (Bool.and_eq_true_iff.mp h3).2⟩
theorem all4 {P : Int → Int → Int → Int → Int → Prop} (h : ∀ n ∈ ([2, 3, 4, 5, 7, 9] : List Nat), ∀ a, a < n → ∀ b, b < n → ∀ c, c < n → ∀ d, d < n → P (n : Int) (a : Int) (b : Int) (c : Int) (d : Int)) {n a b c d : Int} (hn : okN n) (ha : 0 ≤ a ∧ a < n) (hb : 0 ≤ b ∧ b < n) (hc : 0 ≤ c ∧ c < n) (hd : 0 ≤ d ∧ d < n) : P n a b c d := by
  have hl := okN_lo hn
  have h1 := h n.toNat (by unfold okN at hn; simp only [List.mem_cons, List.not_mem_nil, or_false]; omega) a.toNat (by omega) b.toNat (by omega) c.toNat (by omega) d.toNat (by omega)
  rw [Int.toNat_of_nonneg (by omega), Int.toNat_of_nonneg ha.1, Int.toNat_of_nonneg hb.1, Int.toNat_of_nonneg hc.1, Int.toNat_of_nonneg hd.1] at h1
  exact h1
theorem gr_pt {n u v y z : Int} (hn : okN n) (hu : 0 ≤ u ∧ u < n) (hv : 0 ≤ v ∧ v < n) (hy : 0 ≤ y ∧ y < n) (hz : 0 ≤ z ∧ z < n) : z = sumS n v (difS n y u) ↔ difS n u v = difS n y z := all4 (P := fun n u v y z => z = sumS n v (difS n y u) ↔ difS n u v = difS n y z) (by decide +kernel) hn hu hv hy hz
theorem gr_ln {n u v y z : Int} (hn : okN n) (hu : 0 ≤ u ∧ u < n) (hv : 0 ≤ v ∧ v < n) (hy : 0 ≤ y ∧ y < n) (hz : 0 ≤ z ∧ z < n) : sumS n u y = sumS n v z ↔ difS n u v = difS n z y := all4 (P := fun n u v y z => sumS n u y = sumS n v z ↔ difS n u v = difS n z y) (by decide +kernel) hn hu hv hy hz
theorem gr_ca {n u y z : Int} (hn : okN n) (hu : 0 ≤ u ∧ u < n) (hy : 0 ≤ y ∧ y < n) (hz : 0 ≤ z ∧ z < n) (h : sumS n u y = sumS n u z) : y = z := by
  have h1 := dif_sum (n := n) (a := y) (b := u) hn hy.1 hy.2 hu.1 hu.2
  have h2 := dif_sum (n := n) (a := z) (b := u) hn hz.1 hz.2 hu.1 hu.2
  rw [h] at h1
  rw [← h1, h2]
theorem gr_dd {n y d : Int} (hn : okN n) (hy : 0 ≤ y ∧ y < n) (hd : 0 ≤ d ∧ d < n) : difS n y (difS n y d) = d := all2 (P := fun n y d => difS n y (difS n y d) = d) (by decide +kernel) hn hy.1 hy.2 hd.1 hd.2
/-- of points (a, y) and (b, z) -/
theorem pr_pt {n : Int} {tb : Int → Int → Int} (hn : okN n) (ht : tbR n tb) {k j : Int} (h1 : 0 ≤ j) (h2 : j < k) (h3 : k < NP n) : cnP (fun x => ptR n tb k x && ptR n tb j x) 91 0 = 1 ↔ (k < n * n → k / n ≠ j / n → cnV (difF n tb true (k / n) (j / n)) (difS n (k % n) (j % n)) n.toNat 0 = 1) := by
  have hl := okN_lo hn
  have hq := sq_b hn
  have hnp : NP n = n * n + n + 1 := rfl
  have hmk := mod_in (n := n) (p := k) hn
  have hmj := mod_in (n := n) (p := j) hn
  have hin : ∀ q x, ptR n tb q x = true → 0 ≤ x ∧ x < NP n := fun q x h => (onC_in h).2
  by_cases hk : k < n * n
  · have hdk := div_in hn (show 0 ≤ k by omega) hk
    have hdj := div_in hn h1 (show j < n * n by omega)
    by_cases he : k / n = j / n
    · refine ⟨fun _ _ h9 => absurd he h9, fun _ => ?_⟩
      refine one_of (x := n * n + k / n) (by omega) (by omega) ?_ ?_ (fun x' g1 g2 => ?_)
      · exact (on_ai hn (by omega) hk (by omega) (by omega)).mpr rfl
      · exact (on_ai hn h1 (by omega) (by omega) (by omega)).mpr (by omega)
      · have hx := hin _ _ g1
        by_cases hx2 : x' < n * n
        · exfalso
          have e1 := (on_aa hn (by omega) hk hx.1 hx2).mp g1
          have e2 := (on_aa hn h1 (by omega) hx.1 hx2).mp g2
          rw [← he, ← e1] at e2
          have e3 := dm_eq n k
          have e4 := dm_eq n j
          rw [he, ← e2] at e3
          omega
        · exact (on_ai hn (by omega) hk (by omega) hx.2).mp g1
    · -- lines [m, c] with c = y - a m
      have hc : ∀ m, 0 ≤ m → m < n → (difF n tb true (k / n) (j / n) m = difS n (k % n) (j % n) ↔ (ptR n tb k (n * m + difS n (k % n) (tb (k / n) m)) = true ∧ ptR n tb j (n * m + difS n (k % n) (tb (k / n) m)) = true)) := by
        intro m m1 m2
        have u1 := ht (k / n) m hdk.1 hdk.2 m1 m2
        have v1 := ht (j / n) m hdj.1 hdj.2 m1 m2
        have d1 := difS_in hn hmk.1 hmk.2 u1.1 u1.2
        have s1 := mul_lt_sq hn m1 m2 d1.1 d1.2
        have s2 := dm_of (i := m) hn d1.1 d1.2
        have o1 := on_aa (tb := tb) hn (show 0 ≤ k by omega) hk s1.1 s1.2
        have o2 := on_aa (tb := tb) hn h1 (show j < n * n by omega) s1.1 s1.2
        rw [s2.1, s2.2] at o1 o2
        show difS n (tb (k / n) m) (tb (j / n) m) = _ ↔ (onC n tb k _ = true ∧ onC n tb j _ = true)
        rw [o1, o2, ← gr_pt hn u1 v1 hmk hmj, sum_dif hn hmk.1 hmk.2 u1.1 u1.2]
        exact ⟨fun h => ⟨rfl, h⟩, fun h => h.2⟩
      have hx : ∀ x, ptR n tb k x = true → ptR n tb j x = true → (0 ≤ x / n ∧ x / n < n) ∧ x = n * (x / n) + difS n (k % n) (tb (k / n) (x / n)) := by
        intro x g1 g2
        have hx := hin _ _ g1
        by_cases hx2 : x < n * n
        · have e1 := (on_aa hn (by omega) hk hx.1 hx2).mp g1
          have hdx := div_in hn hx.1 hx2
          have hmx := mod_in (n := n) (p := x) hn
          have u1 := ht (k / n) (x / n) hdk.1 hdk.2 hdx.1 hdx.2
          refine ⟨hdx, ?_⟩
          rw [e1, dif_sum hn hmx.1 hmx.2 u1.1 u1.2]
          exact (dm_eq n x).symm
        · exfalso
          have e1 := (on_ai hn (by omega) hk (by omega) hx.2).mp g1
          have e2 := (on_ai hn h1 (by omega) (by omega) hx.2).mp g2
          omega
      refine ⟨fun h _ _ => ?_, fun h => ?_⟩
      · obtain ⟨x, hx1, hx2⟩ := (cnP_one 91 0).mp h
        have hx3 := Bool.and_eq_true_iff.mp hx1.2.2
        have hx4 := hx x hx3.1 hx3.2
        refine (cnP_one _ _).mpr ⟨x / n, ⟨hx4.1.1, by omega, ?_⟩, fun m m1 m2 m3 => ?_⟩
        · refine decide_eq_true ((hc _ hx4.1.1 hx4.1.2).mpr ?_)
          rw [← hx4.2]
          exact hx3
        · have m4 := (hc m m1 (by omega)).mp (of_decide_eq_true m3)
          have m5 := hin _ _ m4.1
          have m6 := hx2 _ m5.1 (by omega) (by show (ptR n tb k _ && ptR n tb j _) = true; rw [m4.1, m4.2]; rfl)
          have u1 := ht (k / n) m hdk.1 hdk.2 m1 (by omega)
          have d1 := difS_in hn hmk.1 hmk.2 u1.1 u1.2
          have s2 := dm_of (i := m) hn d1.1 d1.2
          rw [← m6, s2.1]
      · obtain ⟨m, hm1, hm2⟩ := (cnP_one _ _).mp (h hk he)
        have m4 := (hc m hm1.1 (by omega)).mp (of_decide_eq_true hm1.2.2)
        have m5 := hin _ _ m4.1
        refine one_of m5.1 (by omega) m4.1 m4.2 (fun x' g1 g2 => ?_)
        have hx4 := hx x' g1 g2
        have e1 := hm2 (x' / n) hx4.1.1 (by omega) (decide_eq_true ((hc _ hx4.1.1 hx4.1.2).mpr (by rw [← hx4.2]; exact ⟨g1, g2⟩)))
        rw [hx4.2, e1]
  · refine ⟨fun _ h9 => absurd h9 hk, fun _ => ?_⟩
    by_cases hj : j < n * n
    · have hdj := div_in hn h1 hj
      by_cases hs : k < n * n + n
      · have u1 := ht (j / n) (k - n * n) hdj.1 hdj.2 (by omega) (by omega)
        have d1 := difS_in hn hmj.1 hmj.2 u1.1 u1.2
        have s1 := mul_lt_sq hn (show 0 ≤ k - n * n by omega) (by omega) d1.1 d1.2
        have s2 := dm_of (i := k - n * n) hn d1.1 d1.2
        refine one_of (x := n * (k - n * n) + difS n (j % n) (tb (j / n) (k - n * n))) s1.1 (by omega) ?_ ?_ (fun x' g1 g2 => ?_)
        · exact (on_ia hn (by omega) h3 s1.1 s1.2).mpr (by rw [s2.1]; omega)
        · refine (on_aa hn h1 hj s1.1 s1.2).mpr ?_
          rw [s2.1, s2.2, sum_dif hn hmj.1 hmj.2 u1.1 u1.2]
        · have hx := hin _ _ g1
          by_cases hx2 : x' < n * n
          · have e1 := (on_ia hn (by omega) h3 hx.1 hx2).mp g1
            have e2 := (on_aa hn h1 hj hx.1 hx2).mp g2
            have hmx := mod_in (n := n) (p := x') hn
            rw [show k - n * n = x' / n by omega] at u1 ⊢
            rw [e2, dif_sum hn hmx.1 hmx.2 u1.1 u1.2]
            exact (dm_eq n x').symm
          · exfalso
            have e1 := (on_ii hn (by omega) h3 (by omega) hx.2).mp g1
            have e2 := (on_ai hn h1 hj (by omega) hx.2).mp g2
            omega
      · refine one_of (x := n * n + j / n) (by omega) (by omega) ?_ ?_ (fun x' g1 g2 => ?_)
        · exact (on_ii hn (by omega) h3 (by omega) (by omega)).mpr (Or.inr (by omega))
        · exact (on_ai hn h1 hj (by omega) (by omega)).mpr rfl
        · have hx := hin _ _ g1
          by_cases hx2 : x' < n * n
          · exfalso
            have e1 := (on_ia hn (by omega) h3 hx.1 hx2).mp g1
            have hdx := div_in hn hx.1 hx2
            omega
          · exact (on_ai hn h1 hj (by omega) hx.2).mp g2
    · refine one_of (x := n * n + n) (by omega) (by omega) ?_ ?_ (fun x' g1 g2 => ?_)
      · exact (on_ii hn (by omega) h3 (by omega) (by omega)).mpr (Or.inl rfl)
      · exact (on_ii hn (by omega) (by omega) (by omega) (by omega)).mpr (Or.inl rfl)
      · have hx := hin _ _ g1
        by_cases hx2 : x' < n * n
        · exfalso
          have e1 := (on_ia hn (by omega) h3 hx.1 hx2).mp g1
          have e2 := (on_ia hn (by omega) (by omega) hx.1 hx2).mp g2
          omega
        · have e1 := (on_ii hn (by omega) h3 (by omega) hx.2).mp g1
          have e2 := (on_ii hn (by omega) (by omega) (by omega) hx.2).mp g2
          omega
/-- of lines [a, y] and [b, z] -/
theorem pr_ln {n : Int} {tb : Int → Int → Int} (hn : okN n) (ht : tbR n tb) {k j : Int} (h1 : 0 ≤ j) (h2 : j < k) (h3 : k < NP n) : cnP (fun x => lnR n tb k x && lnR n tb j x) 91 0 = 1 ↔ (k < n * n → k / n ≠ j / n → cnV (difF n tb false (k / n) (j / n)) (difS n (j % n) (k % n)) n.toNat 0 = 1) := by
  have hl := okN_lo hn
  have hq := sq_b hn
  have hnp : NP n = n * n + n + 1 := rfl
  have hmk := mod_in (n := n) (p := k) hn
  have hmj := mod_in (n := n) (p := j) hn
  have hin : ∀ q x, lnR n tb q x = true → 0 ≤ x ∧ x < NP n := fun q x h => (onC_in h).1
  by_cases hk : k < n * n
  · have hdk := div_in hn (show 0 ≤ k by omega) hk
    have hdj := div_in hn h1 (show j < n * n by omega)
    by_cases he : k / n = j / n
    · refine ⟨fun _ _ h9 => absurd he h9, fun _ => ?_⟩
      refine one_of (x := n * n + k / n) (by omega) (by omega) ?_ ?_ (fun x' g1 g2 => ?_)
      · exact (on_ia hn (by omega) (by omega) (by omega) hk).mpr rfl
      · exact (on_ia hn (by omega) (by omega) h1 (by omega)).mpr (by omega)
      · have hx := hin _ _ g1
        by_cases hx2 : x' < n * n
        · exfalso
          have e1 := (on_aa hn hx.1 hx2 (by omega) hk).mp g1
          have e2 := (on_aa hn hx.1 hx2 h1 (by omega)).mp g2
          have hdx := div_in hn hx.1 hx2
          have u1 := ht (x' / n) (k / n) hdx.1 hdx.2 hdk.1 hdk.2
          rw [← he] at e2
          have e5 := gr_ca hn u1 hmk hmj (e1.symm.trans e2)
          have e3 := dm_eq n k
          have e4 := dm_eq n j
          rw [he, e5] at e3
          omega
        · exact (on_ia hn (by omega) hx.2 (by omega) hk).mp g1
    · -- points (x, x a + y)
      have hc : ∀ m, 0 ≤ m → m < n → (difF n tb false (k / n) (j / n) m = difS n (j % n) (k % n) ↔ (lnR n tb k (n * m + sumS n (tb m (k / n)) (k % n)) = true ∧ lnR n tb j (n * m + sumS n (tb m (k / n)) (k % n)) = true)) := by
        intro m m1 m2
        have u1 := ht m (k / n) m1 m2 hdk.1 hdk.2
        have v1 := ht m (j / n) m1 m2 hdj.1 hdj.2
        have d1 := sumS_in hn u1.1 u1.2 hmk.1 hmk.2
        have s1 := mul_lt_sq hn m1 m2 d1.1 d1.2
        have s2 := dm_of (i := m) hn d1.1 d1.2
        have o1 := on_aa (tb := tb) hn s1.1 s1.2 (show 0 ≤ k by omega) hk
        have o2 := on_aa (tb := tb) hn s1.1 s1.2 h1 (show j < n * n by omega)
        rw [s2.1, s2.2] at o1 o2
        show difS n (tb m (k / n)) (tb m (j / n)) = _ ↔ (onC n tb _ k = true ∧ onC n tb _ j = true)
        rw [o1, o2, ← gr_ln hn u1 v1 hmk hmj]
        exact ⟨fun h => ⟨rfl, h⟩, fun h => h.2⟩
      have hx : ∀ x, lnR n tb k x = true → lnR n tb j x = true → (0 ≤ x / n ∧ x / n < n) ∧ x = n * (x / n) + sumS n (tb (x / n) (k / n)) (k % n) := by
        intro x g1 g2
        have hx := hin _ _ g1
        by_cases hx2 : x < n * n
        · have e1 := (on_aa hn hx.1 hx2 (by omega) hk).mp g1
          have hdx := div_in hn hx.1 hx2
          refine ⟨hdx, ?_⟩
          rw [← e1]
          exact (dm_eq n x).symm
        · exfalso
          have e1 := (on_ia hn (by omega) hx.2 (by omega) hk).mp g1
          have e2 := (on_ia hn (by omega) hx.2 h1 (by omega)).mp g2
          omega
      refine ⟨fun h _ _ => ?_, fun h => ?_⟩
      · obtain ⟨x, hx1, hx2⟩ := (cnP_one 91 0).mp h
        have hx3 := Bool.and_eq_true_iff.mp hx1.2.2
        have hx4 := hx x hx3.1 hx3.2
        refine (cnP_one _ _).mpr ⟨x / n, ⟨hx4.1.1, by omega, ?_⟩, fun m m1 m2 m3 => ?_⟩
        · refine decide_eq_true ((hc _ hx4.1.1 hx4.1.2).mpr ?_)
          rw [← hx4.2]
          exact hx3
        · have m4 := (hc m m1 (by omega)).mp (of_decide_eq_true m3)
          have m5 := hin _ _ m4.1
          have m6 := hx2 _ m5.1 (by omega) (by show (lnR n tb k _ && lnR n tb j _) = true; rw [m4.1, m4.2]; rfl)
          have u1 := ht m (k / n) m1 (by omega) hdk.1 hdk.2
          have d1 := sumS_in hn u1.1 u1.2 hmk.1 hmk.2
          have s2 := dm_of (i := m) hn d1.1 d1.2
          rw [← m6, s2.1]
      · obtain ⟨m, hm1, hm2⟩ := (cnP_one _ _).mp (h hk he)
        have m4 := (hc m hm1.1 (by omega)).mp (of_decide_eq_true hm1.2.2)
        have m5 := hin _ _ m4.1
        refine one_of m5.1 (by omega) m4.1 m4.2 (fun x' g1 g2 => ?_)
        have hx4 := hx x' g1 g2
        have e1 := hm2 (x' / n) hx4.1.1 (by omega) (decide_eq_true ((hc _ hx4.1.1 hx4.1.2).mpr (by rw [← hx4.2]; exact ⟨g1, g2⟩)))
        rw [hx4.2, e1]
  · refine ⟨fun _ h9 => absurd h9 hk, fun _ => ?_⟩
    by_cases hj : j < n * n
    · have hdj := div_in hn h1 hj
      by_cases hs : k < n * n + n
      · have u1 := ht (k - n * n) (j / n) (by omega) (by omega) hdj.1 hdj.2
        have d1 := sumS_in hn u1.1 u1.2 hmj.1 hmj.2
        have s1 := mul_lt_sq hn (show 0 ≤ k - n * n by omega) (by omega) d1.1 d1.2
        have s2 := dm_of (i := k - n * n) hn d1.1 d1.2
        refine one_of (x := n * (k - n * n) + sumS n (tb (k - n * n) (j / n)) (j % n)) s1.1 (by omega) ?_ ?_ (fun x' g1 g2 => ?_)
        · exact (on_ai hn s1.1 s1.2 (by omega) h3).mpr (by rw [s2.1]; omega)
        · refine (on_aa hn s1.1 s1.2 h1 hj).mpr ?_
          rw [s2.1, s2.2]
        · have hx := hin _ _ g1
          by_cases hx2 : x' < n * n
          · have e1 := (on_ai hn hx.1 hx2 (by omega) h3).mp g1
            have e2 := (on_aa hn hx.1 hx2 h1 hj).mp g2
            rw [show k - n * n = x' / n by omega, ← e2]
            exact (dm_eq n x').symm
          · exfalso
            have e1 := (on_ii hn (by omega) hx.2 (by omega) h3).mp g1
            have e2 := (on_ia hn (by omega) hx.2 h1 hj).mp g2
            omega
      · refine one_of (x := n * n + j / n) (by omega) (by omega) ?_ ?_ (fun x' g1 g2 => ?_)
        · exact (on_ii hn (by omega) (by omega) (by omega) h3).mpr (Or.inl (by omega))
        · exact (on_ia hn (by omega) (by omega) h1 hj).mpr rfl
        · have hx := hin _ _ g1
          by_cases hx2 : x' < n * n
          · exfalso
            have e1 := (on_ai hn hx.1 hx2 (by omega) h3).mp g1
            have hdx := div_in hn hx.1 hx2
            omega
          · exact (on_ia hn (by omega) hx.2 h1 hj).mp g2
    · refine one_of (x := n * n + n) (by omega) (by omega) ?_ ?_ (fun x' g1 g2 => ?_)
      · exact (on_ii hn (by omega) (by omega) (by omega) h3).mpr (Or.inr rfl)
      · exact (on_ii hn (by omega) (by omega) (by omega) (by omega)).mpr (Or.inr rfl)
      · have hx := hin _ _ g1
        by_cases hx2 : x' < n * n
        · exfalso
          have e1 := (on_ai hn hx.1 hx2 (by omega) h3).mp g1
          have e2 := (on_ai hn hx.1 hx2 (by omega) (by omega)).mp g2
          omega
        · have e1 := (on_ii hn (by omega) hx.2 (by omega) h3).mp g1
          have e2 := (on_ii hn (by omega) hx.2 (by omega) (by omega)).mp g2
          omega
/-! The sums. -/
theorem sum_blk (f : Int → Int) (n : Nat) : ∀ (m : Nat) (c : Int), sumF f (m * n) (n * c) = sumF (fun b => sumF (fun z => f (n * b + z)) n 0) m c
  | 0, c => by rw [Nat.zero_mul]; rfl
  | m + 1, c => by
    rw [show (m + 1) * n = n + m * n by rw [Nat.add_mul]; omega, cn_split, show (n : Int) * c + (n : Int) = n * (c + 1) by rw [Int.mul_add, Int.mul_one], sum_blk f n m (c + 1)]
    have h := cn_shift f (n * c) n 0
    rw [Int.add_zero] at h
    rw [h]
    rfl
theorem sum_perm {n : Int} {h g : Int → Int} (hn : 0 ≤ n) (hg : ∀ z, 0 ≤ z → z < n → 0 ≤ g z ∧ g z < n) (hb : ∀ d, 0 ≤ d → d < n → ∃ z, (0 ≤ z ∧ z < n ∧ g z = d) ∧ ∀ z', 0 ≤ z' → z' < n → g z' = d → z' = z) : sumF (fun z => h (g z)) n.toNat 0 = sumF h n.toNat 0 := by
  have e1 : sumF (fun z => h (g z)) n.toNat 0 = sumF (fun z => sumF (fun d => bI (decide (g z = d)) * h d) n.toNat 0) n.toNat 0 := by
    refine sum_congr _ _ (fun z g1 g2 => ?_)
    have g3 := hg z g1 (by omega)
    have key : ∀ (k : Nat) (i : Int), i ≤ g z → g z < i + k → sumF (fun d => bI (decide (g z = d)) * h d) k i = h (g z) := by
      intro k
      induction k with
      | zero => intro i g4 g5; omega
      | succ k ih =>
        intro i g4 g5
        show bI (decide (g z = i)) * h i + sumF _ k (i + 1) = _
        by_cases he : g z = i
        · rw [decide_eq_true he, cn_zero k (i + 1) (fun d g6 g7 => by rw [decide_eq_false (by omega)]; exact Int.zero_mul _), ← he]
          show 1 * _ + 0 = _
          omega
        · rw [decide_eq_false he, ih (i + 1) (by omega) (by omega)]
          show 0 * _ + _ = _
          omega
    exact (key n.toNat 0 g3.1 (by omega)).symm
  rw [e1, cn_swap (fun z d => bI (decide (g z = d)) * h d)]
  refine sum_congr _ _ (fun d g1 g2 => ?_)
  obtain ⟨z, hz, hu⟩ := hb d g1 (by omega)
  have key : ∀ (k : Nat) (i : Int), 0 ≤ i → i ≤ z → z < i + k → i + k = n → sumF (fun x => bI (decide (g x = d)) * h d) k i = h d := by
    intro k
    induction k with
    | zero => intro i _ g4 g5 _; omega
    | succ k ih =>
      intro i g3 g4 g5 g6
      show bI (decide (g i = d)) * h d + sumF _ k (i + 1) = _
      by_cases he : z = i
      · rw [← he, decide_eq_true hz.2.2, cn_zero k (z + 1) (fun x g7 g8 => by rw [decide_eq_false (fun g9 => by have := hu x (by omega) (by omega) g9; omega)]; exact Int.zero_mul _)]
        show 1 * _ + 0 = _
        omega
      · rw [decide_eq_false (fun g9 => he (hu i (by omega) (by omega) g9).symm), ih (i + 1) (by omega) (by omega) (by omega) (by omega)]
        show 0 * _ + _ = _
        omega
  exact key n.toNat 0 (by omega) hz.1 (by omega) (by omega)
theorem wr_sum {n : Int} {Fk H : Int → Int → Int} {G : Int → Int → Int → Int} {sg : Int → Int → Int} (hn : okN n) (hA : ∀ k j, 0 ≤ j → j < k → n * n ≤ k → k < NP n → Fk k j = 0)
    (hB : ∀ a y z, 0 ≤ a → a < n → 0 ≤ z → z < y → y < n → Fk (n * a + y) (n * a + z) = 0)
    (hC : ∀ a b y z, 0 ≤ b → b < a → a < n → 0 ≤ y → y < n → 0 ≤ z → z < n → Fk (n * a + y) (n * b + z) = G a b (sg y z))
    (hD : ∀ a b y, 0 ≤ b → b < a → a < n → 0 ≤ y → y < n → sumF (fun z => G a b (sg y z)) n.toNat 0 = H a b) :
    sumF (fun k => sumF (Fk k) k.toNat 0) (NP n).toNat 0 = sumF (fun a => sumF (H a) a.toNat 0) n.toNat 0 * n := by
  have hl := okN_lo hn
  have hq := sq_b hn
  have hnp : NP n = n * n + n + 1 := rfl
  obtain ⟨N, hN⟩ : ∃ N : Nat, n = (N : Int) := ⟨n.toNat, by omega⟩
  have e0 : (NP n).toNat = n.toNat * n.toNat + (N + 1) := by
    have h1 : (n.toNat * n.toNat : Nat) = (n * n).toNat := by
      rw [hN, Int.toNat_natCast]; rfl
    rw [h1]; omega
  rw [e0, cn_split]
  have hz : sumF (fun k => sumF (Fk k) k.toNat 0) (N + 1) (0 + ((n.toNat * n.toNat : Nat) : Int)) = 0 := by
    have h1 : ((n.toNat * n.toNat : Nat) : Int) = n * n := by
      rw [hN, Int.toNat_natCast]; rfl
    rw [h1]
    exact cn_zero _ _ (fun k g1 g2 => cn_zero _ _ (fun j g3 g4 => hA k j g3 (by omega) (by omega) (by omega)))
  rw [hz, Int.add_zero]
  have h1 := sum_blk (fun k => sumF (Fk k) k.toNat 0) n.toNat n.toNat 0
  rw [Int.mul_zero] at h1
  rw [h1]
  have hrow : ∀ a, 0 ≤ a → a < n → sumF (fun y => sumF (Fk ((n.toNat : Int) * a + y)) ((n.toNat : Int) * a + y).toNat 0) n.toNat 0 = n * sumF (H a) a.toNat 0 := by
    intro a a1 a2
    rw [Int.toNat_of_nonneg (show 0 ≤ n by omega)]
    have hy : ∀ y, 0 ≤ y → y < 0 + (n.toNat : Int) → sumF (Fk (n * a + y)) (n * a + y).toNat 0 = sumF (H a) a.toNat 0 := by
      intro y y1 y2
      have ha0 := mle (i := 0) (j := a) hn a1
      rw [Int.mul_zero] at ha0
      have e2 : (n * a + y).toNat = a.toNat * n.toNat + y.toNat := by
        have h3 : (a.toNat * n.toNat : Nat) = (n * a).toNat := by
          obtain ⟨A, hA2⟩ : ∃ A : Nat, a = (A : Int) := ⟨a.toNat, by omega⟩
          rw [hN, hA2, Int.toNat_natCast, Int.toNat_natCast, Int.mul_comm]; rfl
        rw [h3]; omega
      have e3 : ((a.toNat * n.toNat : Nat) : Int) = n * a := by
        rw [Int.natCast_mul, Int.toNat_of_nonneg a1, Int.toNat_of_nonneg (show 0 ≤ n by omega), Int.mul_comm]
      rw [e2, cn_split, e3]
      have h4 : sumF (Fk (n * a + y)) y.toNat (0 + n * a) = 0 := by
        refine cn_zero _ _ (fun j g1 g2 => ?_)
        have h5 := hB a y (j - n * a) a1 a2 (by omega) (by omega) (by omega)
        rw [show n * a + (j - n * a) = j by omega] at h5
        exact h5
      rw [h4, Int.add_zero]
      have h6 := sum_blk (Fk (n * a + y)) n.toNat a.toNat 0
      rw [Int.mul_zero, Int.toNat_of_nonneg (show 0 ≤ n by omega)] at h6
      rw [h6]
      refine sum_congr _ _ (fun b g1 g2 => ?_)
      rw [← hD a b y g1 (by omega) a2 y1 (by omega)]
      exact sum_congr _ _ (fun z g3 g4 => hC a b y z g1 (by omega) a2 y1 (by omega) g3 (by omega))
    rw [cn_const n.toNat 0 hy, Int.toNat_of_nonneg (show 0 ≤ n by omega)]
  rw [sum_congr (q := fun a => n * sumF (H a) a.toNat 0) n.toNat 0 (fun a g1 g2 => hrow a g1 (by omega))]
  have hmul : ∀ (f : Int → Int) (k : Nat) (i : Int), sumF (fun a => n * f a) k i = sumF f k i * n := by
    intro f k
    induction k with
    | zero => intro i; show (0 : Int) = 0 * n; omega
    | succ k ih =>
      intro i
      show n * f i + sumF (fun a => n * f a) k (i + 1) = (f i + sumF f k (i + 1)) * n
      rw [ih (i + 1), Int.add_mul, Int.mul_comm n]
  exact hmul (fun a => sumF (H a) a.toNat 0) n.toNat 0
def offG (n : Int) (tb : Int → Int → Int) (r : Bool) (a b d : Int) : Int := if cnV (difF n tb r a b) d n.toNat 0 = 1 then 0 else 1
theorem off_sum {n : Int} {tb : Int → Int → Int} {r : Bool} {a b : Int} (hn : okN n) (ht : tbR n tb) (ha : 0 ≤ a) (ha2 : a < n) (hb : 0 ≤ b) (hb2 : b < n) : sumF (offG n tb r a b) n.toNat 0 = n - onceS n tb r a b := by
  have hl := okN_lo hn
  unfold onceS
  rw [once_cnt (by omega) (by omega) (fun j g1 g2 => difF_in hn ht ha ha2 hb hb2 g1 g2)]
  have h1 : sumF (fun d => offG n tb r a b d + bI (decide (cnV (difF n tb r a b) d n.toNat 0 = 1))) n.toNat 0 = n.toNat * 1 := by
    refine cn_const _ _ (fun d _ _ => ?_)
    unfold offG
    split
    next h => rw [decide_eq_true h]; rfl
    next h => rw [decide_eq_false h]; rfl
  have h2 := (cn_add (offG n tb r a b) (fun d => bI (decide (cnV (difF n tb r a b) d n.toNat 0 = 1))) n.toNat 0).symm.trans h1
  show sumF (offG n tb r a b) n.toNat 0 = n - sumF (fun d => bI (decide (cnV (difF n tb r a b) d n.toNat 0 = 1))) n.toNat 0
  omega
theorem wr_pa_p {n : Int} {tb : Int → Int → Int} (hn : okN n) (ht : tbR n tb) : wrS n (ptR n tb) = paS n tb true := by
  have hl := okN_lo hn
  have hq := sq_b hn
  have hnp : NP n = n * n + n + 1 := rfl
  refine (wr_sum (Fk := wrF (ptR n tb)) (H := fun a b => n - onceS n tb true a b) (G := offG n tb true) (sg := fun y z => difS n y z) hn (fun k j g1 g2 g3 g4 => ?_) (fun a y z g1 g2 g3 g4 g5 => ?_) (fun a b y z g1 g2 g3 g4 g5 g6 g7 => ?_) (fun a b y g1 g2 g3 g4 g5 => ?_)).trans rfl
  · exact if_pos ((pr_pt hn ht g1 g2 g4).mpr (fun h9 => absurd h9 (by omega)))
  · have d1 := dm_of (i := a) hn (show 0 ≤ y by omega) g5
    have d2 := dm_of (i := a) hn g3 (show z < n by omega)
    have s1 := mul_lt_sq hn g1 g2 (show 0 ≤ y by omega) g5
    have s2 := mul_lt_sq hn g1 g2 g3 (show z < n by omega)
    exact if_pos ((pr_pt hn ht s2.1 (by omega) (by omega)).mpr (fun _ h9 => absurd (by rw [d1.1, d2.1]) h9))
  · have d1 := dm_of (i := a) hn g4 g5
    have d2 := dm_of (i := b) hn g6 g7
    have s1 := mul_lt_sq hn (show 0 ≤ a by omega) g3 g4 g5
    have s2 := mul_lt_sq hn g1 (show b < n by omega) g6 g7
    have s3 := mst hn g2
    have h1 := pr_pt (k := n * a + y) (j := n * b + z) hn ht s2.1 (by omega) (by omega)
    rw [d1.1, d1.2, d2.1, d2.2] at h1
    unfold wrF offG
    by_cases hc : cnV (difF n tb true a b) (difS n y z) n.toNat 0 = 1
    · rw [if_pos hc, if_pos (h1.mpr (fun _ _ => hc))]
    · rw [if_neg hc, if_neg (fun h9 => hc (h1.mp h9 s1.2 (by omega)))]
  · rw [sum_perm (h := offG n tb true a b) (g := fun z => difS n y z) (by omega) (fun z g6 g7 => difS_in hn g4 g5 g6 g7) (fun d g6 g7 => ?_)]
    · exact off_sum hn ht (by omega) g3 g1 (by omega)
    · have h1 := difS_in hn g4 g5 g6 g7
      refine ⟨difS n y d, ⟨h1.1, h1.2, gr_dd hn ⟨g4, g5⟩ ⟨g6, g7⟩⟩, fun z' g8 g9 g10 => ?_⟩
      rw [← g10]
      exact (gr_dd hn ⟨g4, g5⟩ ⟨g8, g9⟩).symm
theorem wr_pa_l {n : Int} {tb : Int → Int → Int} (hn : okN n) (ht : tbR n tb) : wrS n (lnR n tb) = paS n tb false := by
  have hl := okN_lo hn
  have hq := sq_b hn
  have hnp : NP n = n * n + n + 1 := rfl
  refine (wr_sum (Fk := wrF (lnR n tb)) (H := fun a b => n - onceS n tb false a b) (G := offG n tb false) (sg := fun y z => difS n z y) hn (fun k j g1 g2 g3 g4 => ?_) (fun a y z g1 g2 g3 g4 g5 => ?_) (fun a b y z g1 g2 g3 g4 g5 g6 g7 => ?_) (fun a b y g1 g2 g3 g4 g5 => ?_)).trans rfl
  · exact if_pos ((pr_ln hn ht g1 g2 g4).mpr (fun h9 => absurd h9 (by omega)))
  · have d1 := dm_of (i := a) hn (show 0 ≤ y by omega) g5
    have d2 := dm_of (i := a) hn g3 (show z < n by omega)
    have s1 := mul_lt_sq hn g1 g2 (show 0 ≤ y by omega) g5
    have s2 := mul_lt_sq hn g1 g2 g3 (show z < n by omega)
    exact if_pos ((pr_ln hn ht s2.1 (by omega) (by omega)).mpr (fun _ h9 => absurd (by rw [d1.1, d2.1]) h9))
  · have d1 := dm_of (i := a) hn g4 g5
    have d2 := dm_of (i := b) hn g6 g7
    have s1 := mul_lt_sq hn (show 0 ≤ a by omega) g3 g4 g5
    have s2 := mul_lt_sq hn g1 (show b < n by omega) g6 g7
    have s3 := mst hn g2
    have h1 := pr_ln (k := n * a + y) (j := n * b + z) hn ht s2.1 (by omega) (by omega)
    rw [d1.1, d1.2, d2.1, d2.2] at h1
    unfold wrF offG
    by_cases hc : cnV (difF n tb false a b) (difS n z y) n.toNat 0 = 1
    · rw [if_pos hc, if_pos (h1.mpr (fun _ _ => hc))]
    · rw [if_neg hc, if_neg (fun h9 => hc (h1.mp h9 s1.2 (by omega)))]
  · rw [sum_perm (h := offG n tb false a b) (g := fun z => difS n z y) (by omega) (fun z g6 g7 => difS_in hn g6 g7 g4 g5) (fun d g6 g7 => ?_)]
    · exact off_sum hn ht (by omega) g3 g1 (by omega)
    · have h1 := sumS_in hn g4 g5 g6 g7
      refine ⟨sumS n y d, ⟨h1.1, h1.2, dif_sum hn g6 g7 g4 g5⟩, fun z' g8 g9 g10 => ?_⟩
      rw [← g10, sum_dif hn g8 g9 g4 g5]
theorem plM_S {n : Int} {tb : Int → Int → Int} (hn : okN n) (ht : tbR n tb) : plM n tb = plS n tb := by
  unfold plM plS
  rw [wr_pa_p hn ht, wr_pa_l hn ht]
