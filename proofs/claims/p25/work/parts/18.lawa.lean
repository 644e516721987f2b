theorem m_callSU {X : Nat × Nat × (Nat → Int32)} {mi pc i mi' y : Nat} {z : Int} {L : List (Option mPV)} {S : List mPV} {w w1 : mPW} {bc bs : Nat} {Q : Option mPV → mPW → Prop} (as S' : List mPV) (hf : m_fetch mi pc = some (pc, .invokestatic i, mi', y, z)) (hst : S = as.reverse ++ S') (hok0 : m_cok mi mi' as.length (m_words as) S' bc bs = true) (C : m_Run X mi' as w (m_U w1)) (K : m_Sem X mi (pc + 3, L, S', w1, bc - (m_rm mi').cells, bs - (m_rm mi').slots) Q) : m_Sem X mi (pc, L, S, w, bc, bs) Q :=
  m_callS as S' hf hst hok0 C (fun r w2 hq _ => by obtain ⟨rfl, rfl⟩ := hq; exact K)
/-! The law's own methods: rows, sums, products. -/
theorem a_ofG {X : Nat × Nat × (Nat → Int32)} {w : mPW} {q : Nat} {f : Nat → Int64} {a b : Int} (hw : w[q]? = some (.inl (2, 9, .inr f))) (ha : 0 ≤ a) (ha2 : a < 9) : m_Run X 47 [.inr (.inl q), .inl a, .inl b] w (m_V (nib (f a.toNat) b) w) := by
  show m_Sem X 47 (0, [some (.inr (.inl q)), some (.inl a), some (.inl b)], [], w, 0, 0) _
  refine m_run 2 (ps' := (2, [some (.inr (.inl q)), some (.inl a), some (.inl b)], [.inl a, .inr (.inl q)], w, 0, 0)) rfl ?_
  refine m_lald rfl hw ha (by omega) (by decide) ?_
  refine m_run 7 (ps' := (12, [some (.inr (.inl q)), some (.inl a), some (.inl b)], [.inl (nib (f a.toNat) b)], w, 0, 0)) rfl ?_
  exact m_ret1 rfl (Or.inl rfl) rfl (m_Vi rfl)
theorem a_putG {X : Nat × Nat × (Nat → Int32)} {w : mPW} {q : Nat} {f : Nat → Int64} {a b r : Int} (hw : w[q]? = some (.inl (2, 9, .inr f))) (ha : 0 ≤ a) (ha2 : a < 9) : m_Run X 48 [.inr (.inl q), .inl a, .inl b, .inl r] w (m_U (w.set q (.inl (2, 9, .inr (putF f a b r))))) := by
  show m_Sem X 48 (0, [some (.inr (.inl q)), some (.inl a), some (.inl b), some (.inl r)], [], w, 0, 0) _
  refine m_run 4 (ps' := (4, [some (.inr (.inl q)), some (.inl a), some (.inl b), some (.inl r)], [.inl a, .inr (.inl q), .inl a, .inr (.inl q)], w, 0, 0)) rfl ?_
  refine m_lald rfl hw ha (by omega) (by decide) ?_
  refine m_run 15 (ps' := (24, [some (.inr (.inl q)), some (.inl a), some (.inl b), some (.inl r)], [.inr (.inr (.long (putN (f a.toNat) b r))), .inl a, .inr (.inl q)], w, 0, 0)) rfl ?_
  refine m_last rfl hw ha (by omega) (by decide) ?_
  exact m_ret0 rfl rfl rfl ⟨rfl, rfl⟩
theorem a_of {X : Nat × Nat × (Nat → Int32)} {C : CS} {g : Int → Int} {f : Nat → Int64} {J : mPW} {n : Int} {tb : Int → Int → Int} {a b : Int} (hL : repL n f tb) (ha : 0 ≤ a) (ha2 : a < n) (hb : 0 ≤ b) (hb2 : b < n) : m_Run X 47 [.inr (.inl 14), .inl a, .inl b] (mW C (.inl (0, 1, .inl g) :: .inl (2, 9, .inr f) :: J)) (m_V (tb a b) (mW C (.inl (0, 1, .inl g) :: .inl (2, 9, .inr f) :: J))) := by
  have hl := okN_lo hL.1
  have h := a_ofG (X := X) (w := mW C (.inl (0, 1, .inl g) :: .inl (2, 9, .inr f) :: J)) (q := 14) (f := f) (a := a) (b := b) rfl ha (by omega)
  rw [(hL.2 a b ha ha2 hb hb2).1] at h
  exact h
theorem a_put {X : Nat × Nat × (Nat → Int32)} {C : CS} {g : Int → Int} {f : Nat → Int64} {J : mPW} {a b r : Int} (ha : 0 ≤ a) (ha2 : a < 9) : m_Run X 48 [.inr (.inl 14), .inl a, .inl b, .inl r] (mW C (.inl (0, 1, .inl g) :: .inl (2, 9, .inr f) :: J)) (m_U (mW C (.inl (0, 1, .inl g) :: .inl (2, 9, .inr (putF f a b r)) :: J))) := a_putG (X := X) (w := mW C (.inl (0, 1, .inl g) :: .inl (2, 9, .inr f) :: J)) (q := 14) (f := f) (a := a) (b := b) (r := r) rfl ha ha2
set_option maxHeartbeats 4000000 in
set_option maxRecDepth 100000 in
theorem a_add {X : Nat × Nat × (Nat → Int32)} {C : CS} {g : Int → Int} {f : Nat → Int64} {J : mPW} {n : Int} {a b : Int} (hg : g 0 = n) (hn : okN n) (ha : 0 ≤ a) (ha2 : a < n) (hb : 0 ≤ b) (hb2 : b < n) : m_Run X 45 [.inr (.inl 13), .inl a, .inl b] (mW C (.inl (0, 1, .inl g) :: .inl (2, 9, .inr f) :: J)) (m_V (sumS n a b) (mW C (.inl (0, 1, .inl g) :: .inl (2, 9, .inr f) :: J))) := by
  have hl := okN_lo hn
  show m_Sem X 45 (0, [some (.inr (.inl 13)), some (.inl a), some (.inl b), none], [], mW C (.inl (0, 1, .inl g) :: .inl (2, 9, .inr f) :: J), 0, 0) _
  refine m_run 2 (ps' := (2, [some (.inr (.inl 13)), some (.inl a), some (.inl b), none], [.inl 0, .inr (.inl 13)], mW C (.inl (0, 1, .inl g) :: .inl (2, 9, .inr f) :: J), 0, 0)) rfl ?_
  refine m_iald rfl rfl (by omega) (by omega) (by decide) ?_
  show m_Sem X 45 (3, [some (.inr (.inl 13)), some (.inl a), some (.inl b), none], [.inl (g 0)], mW C (.inl (0, 1, .inl g) :: .inl (2, 9, .inr f) :: J), 0, 0) _
  rw [hg]
  refine m_run 3 (ps' := (7, [some (.inr (.inl 13)), some (.inl a), some (.inl b), some (.inl n)], [.inl 9, .inl n], mW C (.inl (0, 1, .inl g) :: .inl (2, 9, .inr f) :: J), 0, 0)) rfl ?_
  refine m_icmp rfl ⟨by omega, by omega⟩ ⟨by omega, by omega⟩ (fun (zc1 : ¬ n = 9) => ?_) (fun (zc1 : ¬ ¬ n = 9) => ?_)
  · refine m_run 2 (ps' := (34, [some (.inr (.inl 13)), some (.inl a), some (.inl b), some (.inl n)], [.inl 4, .inl n], mW C (.inl (0, 1, .inl g) :: .inl (2, 9, .inr f) :: J), 0, 0)) rfl ?_
    refine m_icmp rfl ⟨by omega, by omega⟩ ⟨by omega, by omega⟩ (fun (zc2 : ¬ n = 4) => ?_) (fun (zc2 : ¬ ¬ n = 4) => ?_)
    · refine m_run 4 (ps' := (47, [some (.inr (.inl 13)), some (.inl a), some (.inl b), some (.inl n)], [.inl n, .inl (a + b)], mW C (.inl (0, 1, .inl g) :: .inl (2, 9, .inr f) :: J), 0, 0)) rfl ?_
      refine m_rem rfl (by omega) (by omega) (by omega) (by omega) ?_
      exact m_ret1 rfl (Or.inl rfl) rfl (m_Vi (by rw [← addL_eq hn ha ha2 hb hb2]; unfold addL; (repeat' split) <;> first | rfl | omega))
    · replace zc2 : n = 4 := Decidable.not_not.mp zc2
      refine m_run 4 (ps' := (48, [some (.inr (.inl 13)), some (.inl a), some (.inl b), some (.inl n)], [.inl ((Int32.ofInt a ^^^ Int32.ofInt b).toInt)], mW C (.inl (0, 1, .inl g) :: .inl (2, 9, .inr f) :: J), 0, 0)) rfl ?_
      exact m_ret1 rfl (Or.inl rfl) rfl (m_Vi (by rw [← addL_eq hn ha ha2 hb hb2]; unfold addL; (repeat' split) <;> first | rfl | omega))
  · replace zc1 : n = 9 := Decidable.not_not.mp zc1
    refine m_run 2 (ps' := (12, [some (.inr (.inl 13)), some (.inl a), some (.inl b), some (.inl n)], [.inl 3, .inl a], mW C (.inl (0, 1, .inl g) :: .inl (2, 9, .inr f) :: J), 0, 0)) rfl ?_
    refine m_div rfl (by omega) (by omega) (by omega) (by omega) ?_
    refine m_run 2 (ps' := (15, [some (.inr (.inl 13)), some (.inl a), some (.inl b), some (.inl n)], [.inl 3, .inl b, .inl (a / 3)], mW C (.inl (0, 1, .inl g) :: .inl (2, 9, .inr f) :: J), 0, 0)) rfl ?_
    refine m_div rfl (by omega) (by omega) (by omega) (by omega) ?_
    refine m_run 2 (ps' := (18, [some (.inr (.inl 13)), some (.inl a), some (.inl b), some (.inl n)], [.inl 3, .inl ((a / 3) + (b / 3))], mW C (.inl (0, 1, .inl g) :: .inl (2, 9, .inr f) :: J), 0, 0)) rfl ?_
    refine m_rem rfl (by omega) (by omega) (by omega) (by omega) ?_
    refine m_run 4 (ps' := (23, [some (.inr (.inl 13)), some (.inl a), some (.inl b), some (.inl n)], [.inl 3, .inl a, .inl ((((a / 3) + (b / 3)) % 3) * 3)], mW C (.inl (0, 1, .inl g) :: .inl (2, 9, .inr f) :: J), 0, 0)) rfl ?_
    refine m_rem rfl (by omega) (by omega) (by omega) (by omega) ?_
    refine m_run 2 (ps' := (26, [some (.inr (.inl 13)), some (.inl a), some (.inl b), some (.inl n)], [.inl 3, .inl b, .inl (a % 3), .inl ((((a / 3) + (b / 3)) % 3) * 3)], mW C (.inl (0, 1, .inl g) :: .inl (2, 9, .inr f) :: J), 0, 0)) rfl ?_
    refine m_rem rfl (by omega) (by omega) (by omega) (by omega) ?_
    refine m_run 2 (ps' := (29, [some (.inr (.inl 13)), some (.inl a), some (.inl b), some (.inl n)], [.inl 3, .inl ((a % 3) + (b % 3)), .inl ((((a / 3) + (b / 3)) % 3) * 3)], mW C (.inl (0, 1, .inl g) :: .inl (2, 9, .inr f) :: J), 0, 0)) rfl ?_
    refine m_rem rfl (by omega) (by omega) (by omega) (by omega) ?_
    refine m_run 1 (ps' := (31, [some (.inr (.inl 13)), some (.inl a), some (.inl b), some (.inl n)], [.inl (((((a / 3) + (b / 3)) % 3) * 3) + (((a % 3) + (b % 3)) % 3))], mW C (.inl (0, 1, .inl g) :: .inl (2, 9, .inr f) :: J), 0, 0)) rfl ?_
    exact m_ret1 rfl (Or.inl rfl) rfl (m_Vi (by rw [← addL_eq hn ha ha2 hb hb2]; unfold addL; (repeat' split) <;> first | rfl | omega))
set_option maxHeartbeats 4000000 in
set_option maxRecDepth 100000 in
theorem a_min {X : Nat × Nat × (Nat → Int32)} {C : CS} {g : Int → Int} {f : Nat → Int64} {J : mPW} {n : Int} {a b : Int} (hg : g 0 = n) (hn : okN n) (ha : 0 ≤ a) (ha2 : a < n) (hb : 0 ≤ b) (hb2 : b < n) : m_Run X 46 [.inr (.inl 13), .inl a, .inl b] (mW C (.inl (0, 1, .inl g) :: .inl (2, 9, .inr f) :: J)) (m_V (difS n a b) (mW C (.inl (0, 1, .inl g) :: .inl (2, 9, .inr f) :: J))) := by
  have hl := okN_lo hn
  show m_Sem X 46 (0, [some (.inr (.inl 13)), some (.inl a), some (.inl b), none], [], mW C (.inl (0, 1, .inl g) :: .inl (2, 9, .inr f) :: J), 0, 0) _
  refine m_run 2 (ps' := (2, [some (.inr (.inl 13)), some (.inl a), some (.inl b), none], [.inl 0, .inr (.inl 13)], mW C (.inl (0, 1, .inl g) :: .inl (2, 9, .inr f) :: J), 0, 0)) rfl ?_
  refine m_iald rfl rfl (by omega) (by omega) (by decide) ?_
  show m_Sem X 46 (3, [some (.inr (.inl 13)), some (.inl a), some (.inl b), none], [.inl (g 0)], mW C (.inl (0, 1, .inl g) :: .inl (2, 9, .inr f) :: J), 0, 0) _
  rw [hg]
  refine m_run 3 (ps' := (7, [some (.inr (.inl 13)), some (.inl a), some (.inl b), some (.inl n)], [.inl 9, .inl n], mW C (.inl (0, 1, .inl g) :: .inl (2, 9, .inr f) :: J), 0, 0)) rfl ?_
  refine m_icmp rfl ⟨by omega, by omega⟩ ⟨by omega, by omega⟩ (fun (zc1 : ¬ n = 9) => ?_) (fun (zc1 : ¬ ¬ n = 9) => ?_)
  · refine m_run 2 (ps' := (38, [some (.inr (.inl 13)), some (.inl a), some (.inl b), some (.inl n)], [.inl 4, .inl n], mW C (.inl (0, 1, .inl g) :: .inl (2, 9, .inr f) :: J), 0, 0)) rfl ?_
    refine m_icmp rfl ⟨by omega, by omega⟩ ⟨by omega, by omega⟩ (fun (zc2 : ¬ n = 4) => ?_) (fun (zc2 : ¬ ¬ n = 4) => ?_)
    · refine m_run 6 (ps' := (53, [some (.inr (.inl 13)), some (.inl a), some (.inl b), some (.inl n)], [.inl n, .inl ((a + n) - b)], mW C (.inl (0, 1, .inl g) :: .inl (2, 9, .inr f) :: J), 0, 0)) rfl ?_
      refine m_rem rfl (by omega) (by omega) (by omega) (by omega) ?_
      exact m_ret1 rfl (Or.inl rfl) rfl (m_Vi (by rw [← difL_eq hn ha ha2 hb hb2]; unfold difL; (repeat' split) <;> first | rfl | omega))
    · replace zc2 : n = 4 := Decidable.not_not.mp zc2
      refine m_run 4 (ps' := (54, [some (.inr (.inl 13)), some (.inl a), some (.inl b), some (.inl n)], [.inl ((Int32.ofInt a ^^^ Int32.ofInt b).toInt)], mW C (.inl (0, 1, .inl g) :: .inl (2, 9, .inr f) :: J), 0, 0)) rfl ?_
      exact m_ret1 rfl (Or.inl rfl) rfl (m_Vi (by rw [← difL_eq hn ha ha2 hb hb2]; unfold difL; (repeat' split) <;> first | rfl | omega))
  · replace zc1 : n = 9 := Decidable.not_not.mp zc1
    refine m_run 2 (ps' := (12, [some (.inr (.inl 13)), some (.inl a), some (.inl b), some (.inl n)], [.inl 3, .inl a], mW C (.inl (0, 1, .inl g) :: .inl (2, 9, .inr f) :: J), 0, 0)) rfl ?_
    refine m_div rfl (by omega) (by omega) (by omega) (by omega) ?_
    refine m_run 4 (ps' := (17, [some (.inr (.inl 13)), some (.inl a), some (.inl b), some (.inl n)], [.inl 3, .inl b, .inl ((a / 3) + 3)], mW C (.inl (0, 1, .inl g) :: .inl (2, 9, .inr f) :: J), 0, 0)) rfl ?_
    refine m_div rfl (by omega) (by omega) (by omega) (by omega) ?_
    refine m_run 2 (ps' := (20, [some (.inr (.inl 13)), some (.inl a), some (.inl b), some (.inl n)], [.inl 3, .inl (((a / 3) + 3) - (b / 3))], mW C (.inl (0, 1, .inl g) :: .inl (2, 9, .inr f) :: J), 0, 0)) rfl ?_
    refine m_rem rfl (by omega) (by omega) (by omega) (by omega) ?_
    refine m_run 4 (ps' := (25, [some (.inr (.inl 13)), some (.inl a), some (.inl b), some (.inl n)], [.inl 3, .inl a, .inl (((((a / 3) + 3) - (b / 3)) % 3) * 3)], mW C (.inl (0, 1, .inl g) :: .inl (2, 9, .inr f) :: J), 0, 0)) rfl ?_
    refine m_rem rfl (by omega) (by omega) (by omega) (by omega) ?_
    refine m_run 4 (ps' := (30, [some (.inr (.inl 13)), some (.inl a), some (.inl b), some (.inl n)], [.inl 3, .inl b, .inl ((a % 3) + 3), .inl (((((a / 3) + 3) - (b / 3)) % 3) * 3)], mW C (.inl (0, 1, .inl g) :: .inl (2, 9, .inr f) :: J), 0, 0)) rfl ?_
    refine m_rem rfl (by omega) (by omega) (by omega) (by omega) ?_
    refine m_run 2 (ps' := (33, [some (.inr (.inl 13)), some (.inl a), some (.inl b), some (.inl n)], [.inl 3, .inl (((a % 3) + 3) - (b % 3)), .inl (((((a / 3) + 3) - (b / 3)) % 3) * 3)], mW C (.inl (0, 1, .inl g) :: .inl (2, 9, .inr f) :: J), 0, 0)) rfl ?_
    refine m_rem rfl (by omega) (by omega) (by omega) (by omega) ?_
    refine m_run 1 (ps' := (35, [some (.inr (.inl 13)), some (.inl a), some (.inl b), some (.inl n)], [.inl ((((((a / 3) + 3) - (b / 3)) % 3) * 3) + ((((a % 3) + 3) - (b % 3)) % 3))], mW C (.inl (0, 1, .inl g) :: .inl (2, 9, .inr f) :: J), 0, 0)) rfl ?_
    exact m_ret1 rfl (Or.inl rfl) rfl (m_Vi (by rw [← difL_eq hn ha ha2 hb hb2]; unfold difL; (repeat' split) <;> first | rfl | omega))
set_option maxHeartbeats 4000000 in
set_option maxRecDepth 100000 in
theorem a_mul {X : Nat × Nat × (Nat → Int32)} {C : CS} {g : Int → Int} {f : Nat → Int64} {J : mPW} {n : Int} {a b : Int} (hg : g 0 = n) (hn : okN n) (ha : 0 ≤ a) (ha2 : a < n) (hb : 0 ≤ b) (hb2 : b < n) : m_Run X 49 [.inr (.inl 13), .inl a, .inl b] (mW C (.inl (0, 1, .inl g) :: .inl (2, 9, .inr f) :: J)) (m_V (fpS n a b) (mW C (.inl (0, 1, .inl g) :: .inl (2, 9, .inr f) :: J))) := by
  have hl := okN_lo hn
  have p0 := mul_b (x := a) (y := b) (B := 8) (C := 8) (by omega) (by omega) (by omega) (by omega)
  have p1 := mul_b (x := a / 3) (y := b) (B := 2) (C := 8) (by omega) (by omega) (by omega) (by omega)
  have p2 := mul_b (x := b / 3) (y := a) (B := 2) (C := 8) (by omega) (by omega) (by omega) (by omega)
  have p3 := mul_b (x := a / 3) (y := b / 3) (B := 2) (C := 2) (by omega) (by omega) (by omega) (by omega)
  show m_Sem X 49 (0, [some (.inr (.inl 13)), some (.inl a), some (.inl b), none, none], [], mW C (.inl (0, 1, .inl g) :: .inl (2, 9, .inr f) :: J), 0, 0) _
  refine m_run 2 (ps' := (2, [some (.inr (.inl 13)), some (.inl a), some (.inl b), none, none], [.inl 0, .inr (.inl 13)], mW C (.inl (0, 1, .inl g) :: .inl (2, 9, .inr f) :: J), 0, 0)) rfl ?_
  refine m_iald rfl rfl (by omega) (by omega) (by decide) ?_
  show m_Sem X 49 (3, [some (.inr (.inl 13)), some (.inl a), some (.inl b), none, none], [.inl (g 0)], mW C (.inl (0, 1, .inl g) :: .inl (2, 9, .inr f) :: J), 0, 0) _
  rw [hg]
  refine m_run 1 (ps' := (4, [some (.inr (.inl 13)), some (.inl a), some (.inl b), none, none], [.inl 4, .inl n], mW C (.inl (0, 1, .inl g) :: .inl (2, 9, .inr f) :: J), 0, 0)) rfl ?_
  refine m_icmp rfl ⟨by omega, by omega⟩ ⟨by omega, by omega⟩ (fun (zc1 : ¬ n = 4) => ?_) (fun (zc1 : ¬ ¬ n = 4) => ?_)
  · refine m_run 2 (ps' := (33, [some (.inr (.inl 13)), some (.inl a), some (.inl b), none, none], [.inl 0, .inr (.inl 13)], mW C (.inl (0, 1, .inl g) :: .inl (2, 9, .inr f) :: J), 0, 0)) rfl ?_
    refine m_iald rfl rfl (by omega) (by omega) (by decide) ?_
    show m_Sem X 49 (34, [some (.inr (.inl 13)), some (.inl a), some (.inl b), none, none], [.inl (g 0)], mW C (.inl (0, 1, .inl g) :: .inl (2, 9, .inr f) :: J), 0, 0) _
    rw [hg]
    refine m_run 1 (ps' := (36, [some (.inr (.inl 13)), some (.inl a), some (.inl b), none, none], [.inl 9, .inl n], mW C (.inl (0, 1, .inl g) :: .inl (2, 9, .inr f) :: J), 0, 0)) rfl ?_
    refine m_icmp rfl ⟨by omega, by omega⟩ ⟨by omega, by omega⟩ (fun (zc2 : ¬ n = 9) => ?_) (fun (zc2 : ¬ ¬ n = 9) => ?_)
    · refine m_run 5 (ps' := (83, [some (.inr (.inl 13)), some (.inl a), some (.inl b), none, none], [.inl 0, .inr (.inl 13), .inl (a * b)], mW C (.inl (0, 1, .inl g) :: .inl (2, 9, .inr f) :: J), 0, 0)) rfl ?_
      refine m_iald rfl rfl (by omega) (by omega) (by decide) ?_
      show m_Sem X 49 (84, [some (.inr (.inl 13)), some (.inl a), some (.inl b), none, none], [.inl (g 0), .inl (a * b)], mW C (.inl (0, 1, .inl g) :: .inl (2, 9, .inr f) :: J), 0, 0) _
      rw [hg]
      refine m_rem rfl (by omega) (by omega) (by omega) (by omega) ?_
      exact m_ret1 rfl (Or.inl rfl) rfl (m_Vi (by rw [← mulL_eq hn ha ha2 hb hb2]; unfold mulL; (repeat' split) <;> first | rfl | omega))
    · replace zc2 : n = 9 := Decidable.not_not.mp zc2
      refine m_run 2 (ps' := (41, [some (.inr (.inl 13)), some (.inl a), some (.inl b), none, none], [.inl 3, .inl a], mW C (.inl (0, 1, .inl g) :: .inl (2, 9, .inr f) :: J), 0, 0)) rfl ?_
      refine m_div rfl (by omega) (by omega) (by omega) (by omega) ?_
      refine m_run 4 (ps' := (46, [some (.inr (.inl 13)), some (.inl a), some (.inl b), none, none], [.inl 3, .inl b, .inl ((a / 3) * b)], mW C (.inl (0, 1, .inl g) :: .inl (2, 9, .inr f) :: J), 0, 0)) rfl ?_
      refine m_div rfl (by omega) (by omega) (by omega) (by omega) ?_
      refine m_run 4 (ps' := (51, [some (.inr (.inl 13)), some (.inl a), some (.inl b), none, none], [.inl 3, .inl (((a / 3) * b) + ((b / 3) * a))], mW C (.inl (0, 1, .inl g) :: .inl (2, 9, .inr f) :: J), 0, 0)) rfl ?_
      refine m_rem rfl (by omega) (by omega) (by omega) (by omega) ?_
      refine m_run 8 (ps' := (61, [some (.inr (.inl 13)), some (.inl a), some (.inl b), some (.inl ((((a / 3) * b) + ((b / 3) * a)) % 3)), none], [.inl 3, .inl a, .inl ((a * b) + 6)], mW C (.inl (0, 1, .inl g) :: .inl (2, 9, .inr f) :: J), 0, 0)) rfl ?_
      refine m_div rfl (by omega) (by omega) (by omega) (by omega) ?_
      refine m_run 2 (ps' := (64, [some (.inr (.inl 13)), some (.inl a), some (.inl b), some (.inl ((((a / 3) * b) + ((b / 3) * a)) % 3)), none], [.inl 3, .inl b, .inl (a / 3), .inl ((a * b) + 6)], mW C (.inl (0, 1, .inl g) :: .inl (2, 9, .inr f) :: J), 0, 0)) rfl ?_
      refine m_div rfl (by omega) (by omega) (by omega) (by omega) ?_
      refine m_run 3 (ps' := (68, [some (.inr (.inl 13)), some (.inl a), some (.inl b), some (.inl ((((a / 3) * b) + ((b / 3) * a)) % 3)), none], [.inl 3, .inl (((a * b) + 6) - ((a / 3) * (b / 3)))], mW C (.inl (0, 1, .inl g) :: .inl (2, 9, .inr f) :: J), 0, 0)) rfl ?_
      refine m_rem rfl (by omega) (by omega) (by omega) (by omega) ?_
      refine m_run 6 (ps' := (77, [some (.inr (.inl 13)), some (.inl a), some (.inl b), some (.inl ((((a / 3) * b) + ((b / 3) * a)) % 3)), some (.inl ((((a * b) + 6) - ((a / 3) * (b / 3))) % 3))], [.inl ((3 * ((((a / 3) * b) + ((b / 3) * a)) % 3)) + ((((a * b) + 6) - ((a / 3) * (b / 3))) % 3))], mW C (.inl (0, 1, .inl g) :: .inl (2, 9, .inr f) :: J), 0, 0)) rfl ?_
      exact m_ret1 rfl (Or.inl rfl) rfl (m_Vi (by rw [← mulL_eq hn ha ha2 hb hb2]; unfold mulL; (repeat' split) <;> first | rfl | omega))
  · replace zc1 : n = 4 := Decidable.not_not.mp zc1
    refine m_run 1 (ps' := (8, [some (.inr (.inl 13)), some (.inl a), some (.inl b), none, none], [.inl a], mW C (.inl (0, 1, .inl g) :: .inl (2, 9, .inr f) :: J), 0, 0)) rfl ?_
    refine m_if rfl ⟨by omega, by omega⟩ (fun (zc2 : a = 0) => ?_) (fun (zc2 : ¬ a = 0) => ?_)
    · refine m_run 2 (ps' := (30, [some (.inr (.inl 13)), some (.inl a), some (.inl b), none, none], [.inl 0], mW C (.inl (0, 1, .inl g) :: .inl (2, 9, .inr f) :: J), 0, 0)) rfl ?_
      exact m_ret1 rfl (Or.inl rfl) rfl (m_Vi (by rw [← mulL_eq hn ha ha2 hb hb2]; unfold mulL; (repeat' split) <;> first | rfl | omega))
    · refine m_run 1 (ps' := (12, [some (.inr (.inl 13)), some (.inl a), some (.inl b), none, none], [.inl b], mW C (.inl (0, 1, .inl g) :: .inl (2, 9, .inr f) :: J), 0, 0)) rfl ?_
      refine m_if rfl ⟨by omega, by omega⟩ (fun (zc3 : ¬ b = 0) => ?_) (fun (zc3 : ¬ ¬ b = 0) => ?_)
      · refine m_run 8 (ps' := (27, [some (.inr (.inl 13)), some (.inl a), some (.inl b), none, none], [.inl 3, .inl (((a - 1) + b) - 1)], mW C (.inl (0, 1, .inl g) :: .inl (2, 9, .inr f) :: J), 0, 0)) rfl ?_
        refine m_rem rfl (by omega) (by omega) (by omega) (by omega) ?_
        refine m_run 2 (ps' := (30, [some (.inr (.inl 13)), some (.inl a), some (.inl b), none, none], [.inl (((((a - 1) + b) - 1) % 3) + 1)], mW C (.inl (0, 1, .inl g) :: .inl (2, 9, .inr f) :: J), 0, 0)) rfl ?_
        exact m_ret1 rfl (Or.inl rfl) rfl (m_Vi (by rw [← mulL_eq hn ha ha2 hb hb2]; unfold mulL; (repeat' split) <;> first | rfl | omega))
      · replace zc3 : b = 0 := Decidable.not_not.mp zc3
        refine m_run 2 (ps' := (30, [some (.inr (.inl 13)), some (.inl a), some (.inl b), none, none], [.inl 0], mW C (.inl (0, 1, .inl g) :: .inl (2, 9, .inr f) :: J), 0, 0)) rfl ?_
        exact m_ret1 rfl (Or.inl rfl) rfl (m_Vi (by rw [← mulL_eq hn ha ha2 hb hb2]; unfold mulL; (repeat' split) <;> first | rfl | omega))
set_option maxHeartbeats 4000000 in
set_option maxRecDepth 100000 in
theorem a_fldI {X : Nat × Nat × (Nat → Int32)} {C : CS} {g : Int → Int} {f : Nat → Int64} {J : mPW} {n : Int} {tb : Int → Int → Int} {a : Int} {Q : Option mPV → mPW → Prop} {v : Int} (hg : g 0 = n) (hL : repL n f tb) (ha : 0 ≤ a) (ha2 : a < n) (K : m_Sem X 50 (4, [some (.inr (.inl 13)), some (.inr (.inl 14)), some (.inl v), some (.inl (a + 1)), none], [], mW C (.inl (0, 1, .inl g) :: .inl (2, 9, .inr f) :: J), 0, 0) Q) : ∀ b : Int, 0 ≤ b → b ≤ n → ∀ (u : Int) (hu : u + sumF (fun b => (if tb a b = fpS n a b then 0 else 1)) (n - b).toNat b = v), m_Sem X 50 (14, [some (.inr (.inl 13)), some (.inr (.inl 14)), some (.inl u), some (.inl a), some (.inl b)], [], mW C (.inl (0, 1, .inl g) :: .inl (2, 9, .inr f) :: J), 0, 0) (Q) := by
  have hn := hL.1
  have hl := okN_lo hn
  refine m_down 0 n ?_ ?_
  · intro u hu
    rw [sum_end] at hu
    have hu : u = v := by omega
    subst hu
    show m_Sem X 50 (14, [some (.inr (.inl 13)), some (.inr (.inl 14)), some (.inl u), some (.inl a), some (.inl n)], [], mW C (.inl (0, 1, .inl g) :: .inl (2, 9, .inr f) :: J), 0, 0) _
    refine m_run 3 (ps' := (18, [some (.inr (.inl 13)), some (.inr (.inl 14)), some (.inl u), some (.inl a), some (.inl n)], [.inl 0, .inr (.inl 13), .inl n], mW C (.inl (0, 1, .inl g) :: .inl (2, 9, .inr f) :: J), 0, 0)) rfl ?_
    refine m_iald rfl rfl (by omega) (by omega) (by decide) ?_
    show m_Sem X 50 (19, [some (.inr (.inl 13)), some (.inr (.inl 14)), some (.inl u), some (.inl a), some (.inl n)], [.inl (g 0), .inl n], mW C (.inl (0, 1, .inl g) :: .inl (2, 9, .inr f) :: J), 0, 0) _
    rw [hg]
    refine m_icmp rfl ⟨by omega, by omega⟩ ⟨by omega, by omega⟩ (fun (zc1 : n ≤ n) => ?_) (fun (zc1 : ¬ n ≤ n) => absurd zc1 (not_not_intro (by omega)))
    refine m_run 2 (ps' := (4, [some (.inr (.inl 13)), some (.inr (.inl 14)), some (.inl u), some (.inl (a + 1)), some (.inl n)], [], mW C (.inl (0, 1, .inl g) :: .inl (2, 9, .inr f) :: J), 0, 0)) rfl ?_
    refine m_weak [some (.inr (.inl 13)), some (.inr (.inl 14)), some (.inl u), some (.inl (a + 1)), none] ⟨rfl, ⟨rfl, ⟨rfl, ⟨rfl, trivial⟩⟩⟩⟩ ?_
    exact K
  · intro b hi1 hi2 ih u hu
    rw [sum_step hi2] at hu
    refine m_run 3 (ps' := (18, [some (.inr (.inl 13)), some (.inr (.inl 14)), some (.inl u), some (.inl a), some (.inl b)], [.inl 0, .inr (.inl 13), .inl b], mW C (.inl (0, 1, .inl g) :: .inl (2, 9, .inr f) :: J), 0, 0)) rfl ?_
    refine m_iald rfl rfl (by omega) (by omega) (by decide) ?_
    show m_Sem X 50 (19, [some (.inr (.inl 13)), some (.inr (.inl 14)), some (.inl u), some (.inl a), some (.inl b)], [.inl (g 0), .inl b], mW C (.inl (0, 1, .inl g) :: .inl (2, 9, .inr f) :: J), 0, 0) _
    rw [hg]
    refine m_icmp rfl ⟨by omega, by omega⟩ ⟨by omega, by omega⟩ (fun (zc1 : n ≤ b) => absurd zc1 (by omega)) (fun (zc1 : ¬ n ≤ b) => ?_)
    refine m_run 4 (ps' := (27, [some (.inr (.inl 13)), some (.inr (.inl 14)), some (.inl u), some (.inl a), some (.inl b)], [.inl b, .inl a, .inr (.inl 14), .inl u], mW C (.inl (0, 1, .inl g) :: .inl (2, 9, .inr f) :: J), 0, 0)) rfl ?_
    refine m_callSF [.inr (.inl 14), .inl a, .inl b] [.inl u] rfl rfl rfl (a_of (a := a) (b := b) hL (by omega) (by omega) (by omega) (by omega)) ?_
    have zt1 := (hL.2 a b (by omega) (by omega) (by omega) (by omega)).2
    show m_Sem X 50 (30, [some (.inr (.inl 13)), some (.inr (.inl 14)), some (.inl u), some (.inl a), some (.inl b)], [.inl (tb a b), .inl u], mW C (.inl (0, 1, .inl g) :: .inl (2, 9, .inr f) :: J), 0, 0) _
    refine m_run 3 (ps' := (34, [some (.inr (.inl 13)), some (.inr (.inl 14)), some (.inl u), some (.inl a), some (.inl b)], [.inl b, .inl a, .inr (.inl 13), .inl (tb a b), .inl u], mW C (.inl (0, 1, .inl g) :: .inl (2, 9, .inr f) :: J), 0, 0)) rfl ?_
    refine m_callSF [.inr (.inl 13), .inl a, .inl b] [.inl (tb a b), .inl u] rfl rfl rfl (a_mul (a := a) (b := b) hg hn (by omega) (by omega) (by omega) (by omega)) ?_
    have zt2 := fpS_in (n := n) (a := a) (b := b) hn (by omega) (by omega) (by omega) (by omega)
    show m_Sem X 50 (37, [some (.inr (.inl 13)), some (.inr (.inl 14)), some (.inl u), some (.inl a), some (.inl b)], [.inl (fpS n a b), .inl (tb a b), .inl u], mW C (.inl (0, 1, .inl g) :: .inl (2, 9, .inr f) :: J), 0, 0) _
    refine m_icmp rfl ⟨by omega, by omega⟩ ⟨by omega, by omega⟩ (fun (zc2 : ¬ (tb a b) = (fpS n a b)) => ?_) (fun (zc2 : ¬ ¬ (tb a b) = (fpS n a b)) => ?_)
    · refine m_run 5 (ps' := (14, [some (.inr (.inl 13)), some (.inr (.inl 14)), some (.inl (u + 1)), some (.inl a), some (.inl (b + 1))], [], mW C (.inl (0, 1, .inl g) :: .inl (2, 9, .inr f) :: J), 0, 0)) rfl ?_
      refine m_weak [some (.inr (.inl 13)), some (.inr (.inl 14)), some (.inl (u + 1)), some (.inl a), some (.inl (b + 1))] ⟨rfl, ⟨rfl, ⟨rfl, ⟨rfl, ⟨rfl, trivial⟩⟩⟩⟩⟩ ?_
      refine ih _ ?_
      rw [← hu]
      simp only [zc2, if_true, if_false]
      omega
    · replace zc2 : (tb a b) = (fpS n a b) := Decidable.not_not.mp zc2
      refine m_run 6 (ps' := (14, [some (.inr (.inl 13)), some (.inr (.inl 14)), some (.inl (u + 0)), some (.inl a), some (.inl (b + 1))], [], mW C (.inl (0, 1, .inl g) :: .inl (2, 9, .inr f) :: J), 0, 0)) rfl ?_
      refine m_weak [some (.inr (.inl 13)), some (.inr (.inl 14)), some (.inl (u + 0)), some (.inl a), some (.inl (b + 1))] ⟨rfl, ⟨rfl, ⟨rfl, ⟨rfl, ⟨rfl, trivial⟩⟩⟩⟩⟩ ?_
      refine ih _ ?_
      rw [← hu]
      simp only [zc2, if_true, if_false]
      omega
set_option maxHeartbeats 4000000 in
set_option maxRecDepth 100000 in
theorem a_fldO {X : Nat × Nat × (Nat → Int32)} {C : CS} {g : Int → Int} {f : Nat → Int64} {J : mPW} {n : Int} {tb : Int → Int → Int} {Q : Option mPV → mPW → Prop} {v : Int} (hg : g 0 = n) (hL : repL n f tb) (K : Q (some (.inl v)) (mW C (.inl (0, 1, .inl g) :: .inl (2, 9, .inr f) :: J))) : ∀ a : Int, 0 ≤ a → a ≤ n → ∀ (u : Int) (hu : u + sumF (fun a => sumF (fun b => (if tb a b = fpS n a b then 0 else 1)) n.toNat 0) (n - a).toNat a = v), m_Sem X 50 (4, [some (.inr (.inl 13)), some (.inr (.inl 14)), some (.inl u), some (.inl a), none], [], mW C (.inl (0, 1, .inl g) :: .inl (2, 9, .inr f) :: J), 0, 0) (Q) := by
  have hn := hL.1
  have hl := okN_lo hn
  refine m_down 0 n ?_ ?_
  · intro u hu
    rw [sum_end] at hu
    have hu : u = v := by omega
    subst hu
    show m_Sem X 50 (4, [some (.inr (.inl 13)), some (.inr (.inl 14)), some (.inl u), some (.inl n), none], [], mW C (.inl (0, 1, .inl g) :: .inl (2, 9, .inr f) :: J), 0, 0) _
    refine m_run 3 (ps' := (7, [some (.inr (.inl 13)), some (.inr (.inl 14)), some (.inl u), some (.inl n), none], [.inl 0, .inr (.inl 13), .inl n], mW C (.inl (0, 1, .inl g) :: .inl (2, 9, .inr f) :: J), 0, 0)) rfl ?_
    refine m_iald rfl rfl (by omega) (by omega) (by decide) ?_
    show m_Sem X 50 (8, [some (.inr (.inl 13)), some (.inr (.inl 14)), some (.inl u), some (.inl n), none], [.inl (g 0), .inl n], mW C (.inl (0, 1, .inl g) :: .inl (2, 9, .inr f) :: J), 0, 0) _
    rw [hg]
    refine m_icmp rfl ⟨by omega, by omega⟩ ⟨by omega, by omega⟩ (fun (zc1 : n ≤ n) => ?_) (fun (zc1 : ¬ n ≤ n) => absurd zc1 (not_not_intro (by omega)))
    refine m_run 1 (ps' := (60, [some (.inr (.inl 13)), some (.inr (.inl 14)), some (.inl u), some (.inl n), none], [.inl u], mW C (.inl (0, 1, .inl g) :: .inl (2, 9, .inr f) :: J), 0, 0)) rfl ?_
    exact m_ret1 rfl (Or.inl rfl) rfl K
  · intro a hi1 hi2 ih u hu
    rw [sum_step hi2] at hu
    refine m_run 3 (ps' := (7, [some (.inr (.inl 13)), some (.inr (.inl 14)), some (.inl u), some (.inl a), none], [.inl 0, .inr (.inl 13), .inl a], mW C (.inl (0, 1, .inl g) :: .inl (2, 9, .inr f) :: J), 0, 0)) rfl ?_
    refine m_iald rfl rfl (by omega) (by omega) (by decide) ?_
    show m_Sem X 50 (8, [some (.inr (.inl 13)), some (.inr (.inl 14)), some (.inl u), some (.inl a), none], [.inl (g 0), .inl a], mW C (.inl (0, 1, .inl g) :: .inl (2, 9, .inr f) :: J), 0, 0) _
    rw [hg]
    refine m_icmp rfl ⟨by omega, by omega⟩ ⟨by omega, by omega⟩ (fun (zc1 : n ≤ a) => absurd zc1 (by omega)) (fun (zc1 : ¬ n ≤ a) => ?_)
    refine m_run 2 (ps' := (14, [some (.inr (.inl 13)), some (.inr (.inl 14)), some (.inl u), some (.inl a), some (.inl 0)], [], mW C (.inl (0, 1, .inl g) :: .inl (2, 9, .inr f) :: J), 0, 0)) rfl ?_
    refine m_weak [some (.inr (.inl 13)), some (.inr (.inl 14)), some (.inl u), some (.inl a), some (.inl 0)] ⟨rfl, ⟨rfl, ⟨rfl, ⟨rfl, ⟨rfl, trivial⟩⟩⟩⟩⟩ ?_
    refine a_fldI (v := u + sumF (fun b => (if tb a b = fpS n a b then 0 else 1)) n.toNat 0) hg hL hi1 hi2 ?_ 0 (by omega) (by omega) u (by rw [z_sub])
    exact ih _ (by rw [← hu]; omega)
set_option maxHeartbeats 4000000 in
set_option maxRecDepth 100000 in
theorem a_fld {X : Nat × Nat × (Nat → Int32)} {C : CS} {g : Int → Int} {f : Nat → Int64} {J : mPW} {n : Int} {tb : Int → Int → Int} (hg : g 0 = n) (hL : repL n f tb) : m_Run X 50 [.inr (.inl 13), .inr (.inl 14)] (mW C (.inl (0, 1, .inl g) :: .inl (2, 9, .inr f) :: J)) (m_V (unlS n tb) (mW C (.inl (0, 1, .inl g) :: .inl (2, 9, .inr f) :: J))) := by
  have hn := hL.1
  have hl := okN_lo hn
  show m_Sem X 50 (0, [some (.inr (.inl 13)), some (.inr (.inl 14)), none, none, none], [], mW C (.inl (0, 1, .inl g) :: .inl (2, 9, .inr f) :: J), 0, 0) _
  refine m_run 4 (ps' := (4, [some (.inr (.inl 13)), some (.inr (.inl 14)), some (.inl 0), some (.inl 0), none], [], mW C (.inl (0, 1, .inl g) :: .inl (2, 9, .inr f) :: J), 0, 0)) rfl ?_
  refine m_weak [some (.inr (.inl 13)), some (.inr (.inl 14)), some (.inl 0), some (.inl 0), none] ⟨rfl, ⟨rfl, ⟨rfl, ⟨rfl, trivial⟩⟩⟩⟩ ?_
  exact a_fldO (v := unlS n tb) hg hL ⟨rfl, rfl⟩ 0 (by omega) (by omega) 0 (by rw [z_sub, Int.zero_add]; rfl)
def fillN (n : Int) (F : Int → Int → Int) (f : Nat → Int64) (a b : Int) : Prop := ∀ a' b', 0 ≤ a' → 0 ≤ b' → b' < n → (a' < a ∨ (a' = a ∧ b' < b)) → nib (f a'.toNat) b' = F a' b'
theorem fillN_0 {n : Int} {F : Int → Int → Int} {f : Nat → Int64} : fillN n F f 0 0 := fun a' b' h1 h2 h3 h4 => absurd h4 (by omega)
theorem fillN_s {n : Int} {F : Int → Int → Int} {f : Nat → Int64} {a b v : Int} (h : fillN n F f a b) (h0 : 0 ≤ a) (h1 : 0 ≤ b) (h2 : b < n) (h3 : n ≤ 9) (h4 : 0 ≤ v) (h5 : v < 16) (hv : v = F a b) : fillN n F (putF f a b v) a (b + 1) := by
  intro a' b' g1 g2 g3 g4
  by_cases he : a' = a ∧ b' = b
  · rw [he.1, he.2, putF_s f h1 (by omega) h4 h5, hv]
  · rw [putF_n f h0 g1 h1 (by omega) h4 h5 g2 (by omega) he]
    exact h a' b' g1 g2 g3 (by omega)
theorem fillN_z {n : Int} {F : Int → Int → Int} {f : Nat → Int64} {a : Int} {z : Int64} (h : fillN n F f a 0) (h0 : 0 ≤ a) : fillN n F (vp_updL f a.toNat z) a 0 := by
  intro a' b' g1 g2 g3 g4
  rw [updL_n f z (by omega)]
  exact h a' b' g1 g2 g3 g4
theorem fillN_r {n : Int} {F : Int → Int → Int} {f : Nat → Int64} {a : Int} (h : fillN n F f a n) : fillN n F f (a + 1) 0 := fun a' b' g1 g2 g3 g4 => h a' b' g1 g2 g3 (by omega)
theorem fillN_e {n : Int} {F : Int → Int → Int} {f : Nat → Int64} (h : fillN n F f n 0) : ∀ a b, 0 ≤ a → a < n → 0 ≤ b → b < n → nib (f a.toNat) b = F a b := fun a b h1 h2 h3 h4 => h a b h1 h3 h4 (Or.inl h2)
set_option maxHeartbeats 4000000 in
set_option maxRecDepth 100000 in
theorem a_begI {X : Nat × Nat × (Nat → Int32)} {C : CS} {g : Int → Int} {J : mPW} {n : Int} {a : Int} {Q : Option mPV → mPW → Prop} (hn : okN n) (ha : 0 ≤ a) (ha2 : a < n) (K : ∀ f : Nat → Int64, fillN n (fpS n) f (a + 1) 0 → m_Sem X 51 (6, [some (.inr (.inl 13)), some (.inr (.inl 14)), some (.inl n), some (.inl (a + 1)), none], [], mW C (.inl (0, 1, .inl (m_up g 0 n)) :: .inl (2, 9, .inr f) :: J), 0, 0) Q) : ∀ b : Int, 0 ≤ b → b ≤ n → ∀ (f : Nat → Int64) (hf : fillN n (fpS n) f a b), m_Sem X 51 (18, [some (.inr (.inl 13)), some (.inr (.inl 14)), some (.inl n), some (.inl a), some (.inl b)], [], mW C (.inl (0, 1, .inl (m_up g 0 n)) :: .inl (2, 9, .inr f) :: J), 0, 0) (Q) := by
  have hl := okN_lo hn
  refine m_down 0 n ?_ ?_
  · intro f hf
    show m_Sem X 51 (18, [some (.inr (.inl 13)), some (.inr (.inl 14)), some (.inl n), some (.inl a), some (.inl n)], [], mW C (.inl (0, 1, .inl (m_up g 0 n)) :: .inl (2, 9, .inr f) :: J), 0, 0) _
    refine m_run 2 (ps' := (21, [some (.inr (.inl 13)), some (.inr (.inl 14)), some (.inl n), some (.inl a), some (.inl n)], [.inl n, .inl n], mW C (.inl (0, 1, .inl (m_up g 0 n)) :: .inl (2, 9, .inr f) :: J), 0, 0)) rfl ?_
    refine m_icmp rfl ⟨by omega, by omega⟩ ⟨by omega, by omega⟩ (fun (zc1 : n ≤ n) => ?_) (fun (zc1 : ¬ n ≤ n) => absurd zc1 (not_not_intro (by omega)))
    refine m_run 2 (ps' := (6, [some (.inr (.inl 13)), some (.inr (.inl 14)), some (.inl n), some (.inl (a + 1)), some (.inl n)], [], mW C (.inl (0, 1, .inl (m_up g 0 n)) :: .inl (2, 9, .inr f) :: J), 0, 0)) rfl ?_
    refine m_weak [some (.inr (.inl 13)), some (.inr (.inl 14)), some (.inl n), some (.inl (a + 1)), none] ⟨rfl, ⟨rfl, ⟨rfl, ⟨rfl, trivial⟩⟩⟩⟩ ?_
    exact K f (fillN_r hf)
  · intro b hi1 hi2 ih f hf
    refine m_run 2 (ps' := (21, [some (.inr (.inl 13)), some (.inr (.inl 14)), some (.inl n), some (.inl a), some (.inl b)], [.inl n, .inl b], mW C (.inl (0, 1, .inl (m_up g 0 n)) :: .inl (2, 9, .inr f) :: J), 0, 0)) rfl ?_
    refine m_icmp rfl ⟨by omega, by omega⟩ ⟨by omega, by omega⟩ (fun (zc1 : n ≤ b) => absurd zc1 (by omega)) (fun (zc1 : ¬ n ≤ b) => ?_)
    refine m_run 6 (ps' := (32, [some (.inr (.inl 13)), some (.inr (.inl 14)), some (.inl n), some (.inl a), some (.inl b)], [.inl b, .inl a, .inr (.inl 13), .inl b, .inl a, .inr (.inl 14)], mW C (.inl (0, 1, .inl (m_up g 0 n)) :: .inl (2, 9, .inr f) :: J), 0, 0)) rfl ?_
    refine m_callSF [.inr (.inl 13), .inl a, .inl b] [.inl b, .inl a, .inr (.inl 14)] rfl rfl rfl (a_mul (a := a) (b := b) (m_up_s g 0 n) hn (by omega) (by omega) (by omega) (by omega)) ?_
    have zt1 := fpS_in (n := n) (a := a) (b := b) hn (by omega) (by omega) (by omega) (by omega)
    show m_Sem X 51 (35, [some (.inr (.inl 13)), some (.inr (.inl 14)), some (.inl n), some (.inl a), some (.inl b)], [.inl (fpS n a b), .inl b, .inl a, .inr (.inl 14)], mW C (.inl (0, 1, .inl (m_up g 0 n)) :: .inl (2, 9, .inr f) :: J), 0, 0) _
    refine m_callSU [.inr (.inl 14), .inl a, .inl b, .inl (fpS n a b)] [] rfl rfl rfl (a_put (a := a) (b := b) (r := (fpS n a b)) (by omega) (by omega)) ?_
    show m_Sem X 51 (38, [some (.inr (.inl 13)), some (.inr (.inl 14)), some (.inl n), some (.inl a), some (.inl b)], [], mW C (.inl (0, 1, .inl (m_up g 0 n)) :: .inl (2, 9, .inr (putF f a b (fpS n a b))) :: J), 0, 0) _
    refine m_run 2 (ps' := (18, [some (.inr (.inl 13)), some (.inr (.inl 14)), some (.inl n), some (.inl a), some (.inl (b + 1))], [], mW C (.inl (0, 1, .inl (m_up g 0 n)) :: .inl (2, 9, .inr (putF f a b (fpS n a b))) :: J), 0, 0)) rfl ?_
    refine m_weak [some (.inr (.inl 13)), some (.inr (.inl 14)), some (.inl n), some (.inl a), some (.inl (b + 1))] ⟨rfl, ⟨rfl, ⟨rfl, ⟨rfl, ⟨rfl, trivial⟩⟩⟩⟩⟩ ?_
    exact ih _ (fillN_s hf ha hi1 hi2 (by omega) (by omega) (by omega) rfl)
set_option maxHeartbeats 4000000 in
set_option maxRecDepth 100000 in
theorem a_begO {X : Nat × Nat × (Nat → Int32)} {C : CS} {g : Int → Int} {J : mPW} {n : Int} {Q : Option mPV → mPW → Prop} (hn : okN n) (K : ∀ f : Nat → Int64, fillN n (fpS n) f n 0 → Q none (mW C (.inl (0, 1, .inl (m_up g 0 n)) :: .inl (2, 9, .inr f) :: J))) : ∀ a : Int, 0 ≤ a → a ≤ n → ∀ (f : Nat → Int64) (hf : fillN n (fpS n) f a 0), m_Sem X 51 (6, [some (.inr (.inl 13)), some (.inr (.inl 14)), some (.inl n), some (.inl a), none], [], mW C (.inl (0, 1, .inl (m_up g 0 n)) :: .inl (2, 9, .inr f) :: J), 0, 0) (Q) := by
  have hl := okN_lo hn
  refine m_down 0 n ?_ ?_
  · intro f hf
    show m_Sem X 51 (6, [some (.inr (.inl 13)), some (.inr (.inl 14)), some (.inl n), some (.inl n), none], [], mW C (.inl (0, 1, .inl (m_up g 0 n)) :: .inl (2, 9, .inr f) :: J), 0, 0) _
    refine m_run 2 (ps' := (8, [some (.inr (.inl 13)), some (.inr (.inl 14)), some (.inl n), some (.inl n), none], [.inl n, .inl n], mW C (.inl (0, 1, .inl (m_up g 0 n)) :: .inl (2, 9, .inr f) :: J), 0, 0)) rfl ?_
    refine m_icmp rfl ⟨by omega, by omega⟩ ⟨by omega, by omega⟩ (fun (zc1 : n ≤ n) => ?_) (fun (zc1 : ¬ n ≤ n) => absurd zc1 (not_not_intro (by omega)))
    exact m_ret0 rfl rfl rfl (K f hf)
  · intro a hi1 hi2 ih f hf
    refine m_run 2 (ps' := (8, [some (.inr (.inl 13)), some (.inr (.inl 14)), some (.inl n), some (.inl a), none], [.inl n, .inl a], mW C (.inl (0, 1, .inl (m_up g 0 n)) :: .inl (2, 9, .inr f) :: J), 0, 0)) rfl ?_
    refine m_icmp rfl ⟨by omega, by omega⟩ ⟨by omega, by omega⟩ (fun (zc1 : n ≤ a) => absurd zc1 (by omega)) (fun (zc1 : ¬ n ≤ a) => ?_)
    refine m_run 3 (ps' := (14, [some (.inr (.inl 13)), some (.inr (.inl 14)), some (.inl n), some (.inl a), none], [.inr (.inr (.long (Int64.ofNat 0))), .inl a, .inr (.inl 14)], mW C (.inl (0, 1, .inl (m_up g 0 n)) :: .inl (2, 9, .inr f) :: J), 0, 0)) rfl ?_
    refine m_last rfl rfl (by omega) (by omega) (by decide) ?_
    show m_Sem X 51 (15, [some (.inr (.inl 13)), some (.inr (.inl 14)), some (.inl n), some (.inl a), none], [], mW C (.inl (0, 1, .inl (m_up g 0 n)) :: .inl (2, 9, .inr (vp_updL f (a).toNat (Int64.ofNat 0))) :: J), 0, 0) _
    refine m_run 2 (ps' := (18, [some (.inr (.inl 13)), some (.inr (.inl 14)), some (.inl n), some (.inl a), some (.inl 0)], [], mW C (.inl (0, 1, .inl (m_up g 0 n)) :: .inl (2, 9, .inr (vp_updL f (a).toNat (Int64.ofNat 0))) :: J), 0, 0)) rfl ?_
    refine m_weak [some (.inr (.inl 13)), some (.inr (.inl 14)), some (.inl n), some (.inl a), some (.inl 0)] ⟨rfl, ⟨rfl, ⟨rfl, ⟨rfl, ⟨rfl, trivial⟩⟩⟩⟩⟩ ?_
    exact a_begI hn hi1 hi2 ih 0 (by omega) (by omega) _ (fillN_z hf hi1)
set_option maxHeartbeats 4000000 in
set_option maxRecDepth 100000 in
theorem a_beg {X : Nat × Nat × (Nat → Int32)} {C : CS} {g : Int → Int} {f : Nat → Int64} {J : mPW} {n : Int} (hn : okN n) : m_Run X 51 [.inr (.inl 13), .inr (.inl 14), .inl n] (mW C (.inl (0, 1, .inl g) :: .inl (2, 9, .inr f) :: J)) (fun r w => r = none ∧ ∃ f2 : Nat → Int64, w = mW C (.inl (0, 1, .inl (m_up g 0 n)) :: .inl (2, 9, .inr f2) :: J) ∧ ∀ a b, 0 ≤ a → a < n → 0 ≤ b → b < n → nib (f2 a.toNat) b = fpS n a b) := by
  have hl := okN_lo hn
  show m_Sem X 51 (0, [some (.inr (.inl 13)), some (.inr (.inl 14)), some (.inl n), none, none], [], mW C (.inl (0, 1, .inl g) :: .inl (2, 9, .inr f) :: J), 0, 0) _
  refine m_run 3 (ps' := (3, [some (.inr (.inl 13)), some (.inr (.inl 14)), some (.inl n), none, none], [.inl n, .inl 0, .inr (.inl 13)], mW C (.inl (0, 1, .inl g) :: .inl (2, 9, .inr f) :: J), 0, 0)) rfl ?_
  refine m_iast rfl rfl (by omega) (by omega) (by decide) ?_
  show m_Sem X 51 (4, [some (.inr (.inl 13)), some (.inr (.inl 14)), some (.inl n), none, none], [], mW C (.inl (0, 1, .inl (m_up g 0 n)) :: .inl (2, 9, .inr f) :: J), 0, 0) _
  refine m_run 2 (ps' := (6, [some (.inr (.inl 13)), some (.inr (.inl 14)), some (.inl n), some (.inl 0), none], [], mW C (.inl (0, 1, .inl (m_up g 0 n)) :: .inl (2, 9, .inr f) :: J), 0, 0)) rfl ?_
  refine m_weak [some (.inr (.inl 13)), some (.inr (.inl 14)), some (.inl n), some (.inl 0), none] ⟨rfl, ⟨rfl, ⟨rfl, ⟨rfl, trivial⟩⟩⟩⟩ ?_
  exact a_begO hn (fun f2 hf => ⟨rfl, f2, rfl, fillN_e hf⟩) 0 (by omega) (by omega) f fillN_0
def szL (y : Int) : Int := if y % 6 = 0 then 2 else if y % 6 = 1 then 3 else if y % 6 = 2 then 4 else if y % 6 = 3 then 5 else if y % 6 = 4 then 7 else 9
theorem szL_ok (y : Int) : okN (szL y) := by
  unfold szL okN
  (repeat' split) <;> omega
set_option maxHeartbeats 4000000 in
set_option maxRecDepth 100000 in
theorem a_size {X : Nat × Nat × (Nat → Int32)} {n : Int} {T : Int → Int} {h : HS} {t : TS} {x : XS} {M : MS} {y : Int} (h1 : 0 ≤ y) (h2 : y < 2147483648) : m_Run X 52 [.inl y] (mW (n, T, h, t, x) M) (m_V (szL y) (mW (n, T, h, t, x) M)) := by
  show m_Sem X 52 (0, [some (.inl y)], [], mW (n, T, h, t, x) M, 0, 0) _
  refine m_run 2 (ps' := (3, [some (.inl y)], [.inl 6, .inl y], mW (n, T, h, t, x) M, 0, 0)) rfl ?_
  refine m_rem rfl (by omega) (by omega) (by omega) (by omega) ?_
  refine m_if rfl ⟨by omega, by omega⟩ (fun (zc1 : ¬ (y % 6) = 0) => ?_) (fun (zc1 : ¬ ¬ (y % 6) = 0) => ?_)
  · refine m_run 2 (ps' := (14, [some (.inl y)], [.inl 6, .inl y], mW (n, T, h, t, x) M, 0, 0)) rfl ?_
    refine m_rem rfl (by omega) (by omega) (by omega) (by omega) ?_
    refine m_run 1 (ps' := (16, [some (.inl y)], [.inl 1, .inl (y % 6)], mW (n, T, h, t, x) M, 0, 0)) rfl ?_
    refine m_icmp rfl ⟨by omega, by omega⟩ ⟨by omega, by omega⟩ (fun (zc2 : ¬ (y % 6) = 1) => ?_) (fun (zc2 : ¬ ¬ (y % 6) = 1) => ?_)
    · refine m_run 2 (ps' := (26, [some (.inl y)], [.inl 6, .inl y], mW (n, T, h, t, x) M, 0, 0)) rfl ?_
      refine m_rem rfl (by omega) (by omega) (by omega) (by omega) ?_
      refine m_run 1 (ps' := (28, [some (.inl y)], [.inl 2, .inl (y % 6)], mW (n, T, h, t, x) M, 0, 0)) rfl ?_
      refine m_icmp rfl ⟨by omega, by omega⟩ ⟨by omega, by omega⟩ (fun (zc3 : ¬ (y % 6) = 2) => ?_) (fun (zc3 : ¬ ¬ (y % 6) = 2) => ?_)
      · refine m_run 2 (ps' := (38, [some (.inl y)], [.inl 6, .inl y], mW (n, T, h, t, x) M, 0, 0)) rfl ?_
        refine m_rem rfl (by omega) (by omega) (by omega) (by omega) ?_
        refine m_run 1 (ps' := (40, [some (.inl y)], [.inl 3, .inl (y % 6)], mW (n, T, h, t, x) M, 0, 0)) rfl ?_
        refine m_icmp rfl ⟨by omega, by omega⟩ ⟨by omega, by omega⟩ (fun (zc4 : ¬ (y % 6) = 3) => ?_) (fun (zc4 : ¬ ¬ (y % 6) = 3) => ?_)
        · refine m_run 2 (ps' := (50, [some (.inl y)], [.inl 6, .inl y], mW (n, T, h, t, x) M, 0, 0)) rfl ?_
          refine m_rem rfl (by omega) (by omega) (by omega) (by omega) ?_
          refine m_run 1 (ps' := (52, [some (.inl y)], [.inl 4, .inl (y % 6)], mW (n, T, h, t, x) M, 0, 0)) rfl ?_
          refine m_icmp rfl ⟨by omega, by omega⟩ ⟨by omega, by omega⟩ (fun (zc5 : ¬ (y % 6) = 4) => ?_) (fun (zc5 : ¬ ¬ (y % 6) = 4) => ?_)
          · refine m_run 1 (ps' := (62, [some (.inl y)], [.inl 9], mW (n, T, h, t, x) M, 0, 0)) rfl ?_
            exact m_ret1 rfl (Or.inl rfl) rfl (m_Vi (by unfold szL; (repeat' split) <;> first | rfl | (exfalso; omega) | omega | simp_all))
          · replace zc5 : (y % 6) = 4 := Decidable.not_not.mp zc5
            refine m_run 2 (ps' := (62, [some (.inl y)], [.inl 7], mW (n, T, h, t, x) M, 0, 0)) rfl ?_
            exact m_ret1 rfl (Or.inl rfl) rfl (m_Vi (by unfold szL; (repeat' split) <;> first | rfl | (exfalso; omega) | omega | simp_all))
        · replace zc4 : (y % 6) = 3 := Decidable.not_not.mp zc4
          refine m_run 2 (ps' := (62, [some (.inl y)], [.inl 5], mW (n, T, h, t, x) M, 0, 0)) rfl ?_
          exact m_ret1 rfl (Or.inl rfl) rfl (m_Vi (by unfold szL; (repeat' split) <;> first | rfl | (exfalso; omega) | omega | simp_all))
      · replace zc3 : (y % 6) = 2 := Decidable.not_not.mp zc3
        refine m_run 2 (ps' := (62, [some (.inl y)], [.inl 4], mW (n, T, h, t, x) M, 0, 0)) rfl ?_
        exact m_ret1 rfl (Or.inl rfl) rfl (m_Vi (by unfold szL; (repeat' split) <;> first | rfl | (exfalso; omega) | omega | simp_all))
    · replace zc2 : (y % 6) = 1 := Decidable.not_not.mp zc2
      refine m_run 2 (ps' := (62, [some (.inl y)], [.inl 3], mW (n, T, h, t, x) M, 0, 0)) rfl ?_
      exact m_ret1 rfl (Or.inl rfl) rfl (m_Vi (by unfold szL; (repeat' split) <;> first | rfl | (exfalso; omega) | omega | simp_all))
  · replace zc1 : (y % 6) = 0 := Decidable.not_not.mp zc1
    refine m_run 2 (ps' := (62, [some (.inl y)], [.inl 2], mW (n, T, h, t, x) M, 0, 0)) rfl ?_
    exact m_ret1 rfl (Or.inl rfl) rfl (m_Vi (by unfold szL; (repeat' split) <;> first | rfl | (exfalso; omega) | omega | simp_all))
def lowL (v m : Int) : Int := (Int32.ofInt v &&& Int32.ofInt 2147483647).toInt % m
theorem and31 (v : Int) : 0 ≤ (Int32.ofInt v &&& Int32.ofInt 2147483647).toInt ∧ (Int32.ofInt v &&& Int32.ofInt 2147483647).toInt < 2147483648 := by
  have h : (Int32.ofInt v &&& Int32.ofInt 2147483647).toBitVec.toNat < 2147483648 := by
    rw [Int32.toBitVec_and, BitVec.toNat_and]
    have h2 : (Int32.ofInt 2147483647).toBitVec.toNat = 2147483647 := by decide +kernel
    rw [h2]
    exact Nat.lt_succ_of_le Nat.and_le_right
  have h2 := i32_of (x := Int32.ofInt v &&& Int32.ofInt 2147483647) rfl h
  omega
theorem lowL_in {v m : Int} (h : 0 < m) : 0 ≤ lowL v m ∧ lowL v m < m := ⟨Int.emod_nonneg _ (by omega), Int.emod_lt_of_pos _ h⟩
set_option maxHeartbeats 4000000 in
set_option maxRecDepth 100000 in
theorem a_low {X : Nat × Nat × (Nat → Int32)} {n : Int} {T : Int → Int} {h : HS} {t : TS} {x : XS} {M : MS} {v m : Int} (h1 : 0 < m) (h2 : m < 2147483648) : m_Run X 44 [.inl v, .inl m] (mW (n, T, h, t, x) M) (m_V (lowL v m) (mW (n, T, h, t, x) M)) := by
  have ha := and31 v
  show m_Sem X 44 (0, [some (.inl v), some (.inl m)], [], mW (n, T, h, t, x) M, 0, 0) _
  refine m_run 4 (ps' := (5, [some (.inl v), some (.inl m)], [.inl m, .inl ((Int32.ofInt v &&& Int32.ofInt 2147483647).toInt)], mW (n, T, h, t, x) M, 0, 0)) rfl ?_
  refine m_rem rfl (by omega) (by omega) (by omega) (by omega) ?_
  exact m_ret1 rfl (Or.inl rfl) rfl (m_Vi rfl)
def cellL (Ls : Nat) (xs : Nat → Int32) (k : Int) : Int := if k < Ls then (xs k.toNat).toInt else 40503 * (k + 3)
set_option maxHeartbeats 4000000 in
set_option maxRecDepth 100000 in
theorem a_cell {b Ls : Nat} {xs : Nat → Int32} {n : Int} {T : Int → Int} {h : HS} {t : TS} {x : XS} {M : MS} {k : Int} (hLs : Ls < 2147483648) (h1 : 0 ≤ k) (h2 : k < 1000) : m_Run (b, Ls, xs) 43 [.inr (.inr (.ref b)), .inl k] (mW (n, T, h, t, x) M) (m_V (cellL Ls xs k) (mW (n, T, h, t, x) M)) := by
  show m_Sem (b, Ls, xs) 43 (0, [some (.inr (.inr (.ref b))), some (.inl k)], [], mW (n, T, h, t, x) M, 0, 0) _
  refine m_run 2 (ps' := (2, [some (.inr (.inr (.ref b))), some (.inl k)], [.inr (.inr (.ref b)), .inl k], mW (n, T, h, t, x) M, 0, 0)) rfl ?_
  refine m_slen rfl ?_
  refine m_icmp rfl ⟨by omega, by omega⟩ ⟨by omega, by omega⟩ (fun (zc1 : (Ls : Int) ≤ k) => ?_) (fun (zc1 : ¬ (Ls : Int) ≤ k) => ?_)
  · refine m_run 5 (ps' := (18, [some (.inr (.inr (.ref b))), some (.inl k)], [.inl (40503 * (k + 3))], mW (n, T, h, t, x) M, 0, 0)) rfl ?_
    exact m_ret1 rfl (Or.inl rfl) rfl (m_Vi (by unfold cellL; rw [if_neg (by omega)]))
  · refine m_run 2 (ps' := (8, [some (.inr (.inr (.ref b))), some (.inl k)], [.inl k, .inr (.inr (.ref b))], mW (n, T, h, t, x) M, 0, 0)) rfl ?_
    refine m_sld rfl (by omega) (by omega) hLs ?_
    refine m_run 1 (ps' := (18, [some (.inr (.inr (.ref b))), some (.inl k)], [.inl ((xs (k).toNat).toInt)], mW (n, T, h, t, x) M, 0, 0)) rfl ?_
    exact m_ret1 rfl (Or.inl rfl) rfl (m_Vi (by unfold cellL; rw [if_pos (by omega)]))
set_option maxHeartbeats 4000000 in
set_option maxRecDepth 100000 in
theorem a_e0 {X : Nat × Nat × (Nat → Int32)} {n : Int} {T : Int → Int} {h : HS} {t : TS} {x : XS} {M : MS} : m_Run X 54 [.inl 0] (mW (n, T, h, t, x) M) (m_V (shB 0) (mW (n, T, h, t, x) M)) := by
  show m_Sem X 54 (0, [some (.inl 0), none, none], [], mW (n, T, h, t, x) M, 0, 0) _
  refine m_run 1 (ps' := (1, [some (.inl 0), none, none], [.inl 0], mW (n, T, h, t, x) M, 0, 0)) rfl ?_
  refine m_if rfl ⟨by omega, by omega⟩ (fun (zc1 : ¬ 0 = 0) => absurd zc1 (by omega)) (fun (zc1 : ¬ ¬ 0 = 0) => ?_)
  refine m_run 5 (ps' := (44, [some (.inl 0), some (.inl 0), none], [.inl 2, .inl 0], mW (n, T, h, t, x) M, 0, 0)) rfl ?_
  refine m_icmp rfl ⟨by omega, by omega⟩ ⟨by omega, by omega⟩ (fun (zc2 : 2 ≤ 0) => absurd zc2 (by omega)) (fun (zc2 : ¬ 2 ≤ 0) => ?_)
  refine m_run 4 (ps' := (74, [some (.inl 0), some (.inl 0), some (.inl 1)], [.inl 0], mW (n, T, h, t, x) M, 0, 0)) rfl ?_
  refine m_if rfl ⟨by omega, by omega⟩ (fun (zc3 : ¬ 0 = 0) => absurd zc3 (by omega)) (fun (zc3 : ¬ ¬ 0 = 0) => ?_)
  refine m_run 2 (ps' := (94, [some (.inl 0), some (.inl 0), some (.inl 1)], [.inl 0], mW (n, T, h, t, x) M, 0, 0)) rfl ?_
  exact m_ret1 rfl (Or.inl rfl) rfl (m_Vi (by decide +kernel))
set_option maxHeartbeats 4000000 in
set_option maxRecDepth 100000 in
theorem a_e1 {X : Nat × Nat × (Nat → Int32)} {n : Int} {T : Int → Int} {h : HS} {t : TS} {x : XS} {M : MS} : m_Run X 54 [.inl 1] (mW (n, T, h, t, x) M) (m_V (shB 1) (mW (n, T, h, t, x) M)) := by
  show m_Sem X 54 (0, [some (.inl 1), none, none], [], mW (n, T, h, t, x) M, 0, 0) _
  refine m_run 1 (ps' := (1, [some (.inl 1), none, none], [.inl 1], mW (n, T, h, t, x) M, 0, 0)) rfl ?_
  refine m_if rfl ⟨by omega, by omega⟩ (fun (zc1 : ¬ 1 = 0) => ?_) (fun (zc1 : ¬ ¬ 1 = 0) => absurd zc1 (not_not_intro (by omega)))
  refine m_run 2 (ps' := (10, [some (.inl 1), none, none], [.inl 2, .inl 1], mW (n, T, h, t, x) M, 0, 0)) rfl ?_
  refine m_icmp rfl ⟨by omega, by omega⟩ ⟨by omega, by omega⟩ (fun (zc2 : 2 ≤ 1) => absurd zc2 (by omega)) (fun (zc2 : ¬ 2 ≤ 1) => ?_)
  refine m_run 5 (ps' := (44, [some (.inl 1), some (.inl 124), none], [.inl 2, .inl 1], mW (n, T, h, t, x) M, 0, 0)) rfl ?_
  refine m_icmp rfl ⟨by omega, by omega⟩ ⟨by omega, by omega⟩ (fun (zc3 : 2 ≤ 1) => absurd zc3 (by omega)) (fun (zc3 : ¬ 2 ≤ 1) => ?_)
  refine m_run 4 (ps' := (74, [some (.inl 1), some (.inl 124), some (.inl 1)], [.inl 1], mW (n, T, h, t, x) M, 0, 0)) rfl ?_
  refine m_if rfl ⟨by omega, by omega⟩ (fun (zc4 : ¬ 1 = 0) => ?_) (fun (zc4 : ¬ ¬ 1 = 0) => absurd zc4 (not_not_intro (by omega)))
  refine m_run 8 (ps' := (91, [some (.inl 1), some (.inl 124), some (.inl 1)], [.inl 1, .inl 8388608, .inl (1 - 1), .inl ((Int32.ofInt 124 <<< (Int32.ofInt 23 &&& 31)).toInt)], mW (n, T, h, t, x) M, 0, 0)) rfl ?_
  refine m_div rfl (by omega) (by omega) (by omega) (by omega) ?_
  refine m_run 2 (ps' := (94, [some (.inl 1), some (.inl 124), some (.inl 1)], [.inl ((Int32.ofInt 124 <<< (Int32.ofInt 23 &&& 31)).toInt + ((1 - 1) * (8388608 / 1)))], mW (n, T, h, t, x) M, 0, 0)) rfl ?_
  exact m_ret1 rfl (Or.inl rfl) rfl (m_Vi (by decide +kernel))
set_option maxHeartbeats 4000000 in
set_option maxRecDepth 100000 in
theorem a_e2 {X : Nat × Nat × (Nat → Int32)} {n : Int} {T : Int → Int} {h : HS} {t : TS} {x : XS} {M : MS} : m_Run X 54 [.inl 2] (mW (n, T, h, t, x) M) (m_V (shB 2) (mW (n, T, h, t, x) M)) := by
  show m_Sem X 54 (0, [some (.inl 2), none, none], [], mW (n, T, h, t, x) M, 0, 0) _
  refine m_run 1 (ps' := (1, [some (.inl 2), none, none], [.inl 2], mW (n, T, h, t, x) M, 0, 0)) rfl ?_
  refine m_if rfl ⟨by omega, by omega⟩ (fun (zc1 : ¬ 2 = 0) => ?_) (fun (zc1 : ¬ ¬ 2 = 0) => absurd zc1 (not_not_intro (by omega)))
  refine m_run 2 (ps' := (10, [some (.inl 2), none, none], [.inl 2, .inl 2], mW (n, T, h, t, x) M, 0, 0)) rfl ?_
  refine m_icmp rfl ⟨by omega, by omega⟩ ⟨by omega, by omega⟩ (fun (zc2 : 2 ≤ 2) => ?_) (fun (zc2 : ¬ 2 ≤ 2) => absurd zc2 (not_not_intro (by omega)))
  refine m_run 2 (ps' := (20, [some (.inl 2), none, none], [.inl 4, .inl 2], mW (n, T, h, t, x) M, 0, 0)) rfl ?_
  refine m_icmp rfl ⟨by omega, by omega⟩ ⟨by omega, by omega⟩ (fun (zc3 : 4 ≤ 2) => absurd zc3 (by omega)) (fun (zc3 : ¬ 4 ≤ 2) => ?_)
  refine m_run 5 (ps' := (44, [some (.inl 2), some (.inl 125), none], [.inl 2, .inl 2], mW (n, T, h, t, x) M, 0, 0)) rfl ?_
  refine m_icmp rfl ⟨by omega, by omega⟩ ⟨by omega, by omega⟩ (fun (zc4 : 2 ≤ 2) => ?_) (fun (zc4 : ¬ 2 ≤ 2) => absurd zc4 (not_not_intro (by omega)))
  refine m_run 2 (ps' := (53, [some (.inl 2), some (.inl 125), none], [.inl 4, .inl 2], mW (n, T, h, t, x) M, 0, 0)) rfl ?_
  refine m_icmp rfl ⟨by omega, by omega⟩ ⟨by omega, by omega⟩ (fun (zc5 : 4 ≤ 2) => absurd zc5 (by omega)) (fun (zc5 : ¬ 4 ≤ 2) => ?_)
  refine m_run 4 (ps' := (74, [some (.inl 2), some (.inl 125), some (.inl 2)], [.inl 2], mW (n, T, h, t, x) M, 0, 0)) rfl ?_
  refine m_if rfl ⟨by omega, by omega⟩ (fun (zc6 : ¬ 2 = 0) => ?_) (fun (zc6 : ¬ ¬ 2 = 0) => absurd zc6 (not_not_intro (by omega)))
  refine m_run 8 (ps' := (91, [some (.inl 2), some (.inl 125), some (.inl 2)], [.inl 2, .inl 8388608, .inl (2 - 2), .inl ((Int32.ofInt 125 <<< (Int32.ofInt 23 &&& 31)).toInt)], mW (n, T, h, t, x) M, 0, 0)) rfl ?_
  refine m_div rfl (by omega) (by omega) (by omega) (by omega) ?_
  refine m_run 2 (ps' := (94, [some (.inl 2), some (.inl 125), some (.inl 2)], [.inl ((Int32.ofInt 125 <<< (Int32.ofInt 23 &&& 31)).toInt + ((2 - 2) * (8388608 / 2)))], mW (n, T, h, t, x) M, 0, 0)) rfl ?_
  exact m_ret1 rfl (Or.inl rfl) rfl (m_Vi (by decide +kernel))
set_option maxHeartbeats 4000000 in
set_option maxRecDepth 100000 in
theorem a_e3 {X : Nat × Nat × (Nat → Int32)} {n : Int} {T : Int → Int} {h : HS} {t : TS} {x : XS} {M : MS} : m_Run X 54 [.inl 3] (mW (n, T, h, t, x) M) (m_V (shB 3) (mW (n, T, h, t, x) M)) := by
  show m_Sem X 54 (0, [some (.inl 3), none, none], [], mW (n, T, h, t, x) M, 0, 0) _
  refine m_run 1 (ps' := (1, [some (.inl 3), none, none], [.inl 3], mW (n, T, h, t, x) M, 0, 0)) rfl ?_
  refine m_if rfl ⟨by omega, by omega⟩ (fun (zc1 : ¬ 3 = 0) => ?_) (fun (zc1 : ¬ ¬ 3 = 0) => absurd zc1 (not_not_intro (by omega)))
  refine m_run 2 (ps' := (10, [some (.inl 3), none, none], [.inl 2, .inl 3], mW (n, T, h, t, x) M, 0, 0)) rfl ?_
  refine m_icmp rfl ⟨by omega, by omega⟩ ⟨by omega, by omega⟩ (fun (zc2 : 2 ≤ 3) => ?_) (fun (zc2 : ¬ 2 ≤ 3) => absurd zc2 (not_not_intro (by omega)))
  refine m_run 2 (ps' := (20, [some (.inl 3), none, none], [.inl 4, .inl 3], mW (n, T, h, t, x) M, 0, 0)) rfl ?_
  refine m_icmp rfl ⟨by omega, by omega⟩ ⟨by omega, by omega⟩ (fun (zc3 : 4 ≤ 3) => absurd zc3 (by omega)) (fun (zc3 : ¬ 4 ≤ 3) => ?_)
  refine m_run 5 (ps' := (44, [some (.inl 3), some (.inl 125), none], [.inl 2, .inl 3], mW (n, T, h, t, x) M, 0, 0)) rfl ?_
  refine m_icmp rfl ⟨by omega, by omega⟩ ⟨by omega, by omega⟩ (fun (zc4 : 2 ≤ 3) => ?_) (fun (zc4 : ¬ 2 ≤ 3) => absurd zc4 (not_not_intro (by omega)))
  refine m_run 2 (ps' := (53, [some (.inl 3), some (.inl 125), none], [.inl 4, .inl 3], mW (n, T, h, t, x) M, 0, 0)) rfl ?_
  refine m_icmp rfl ⟨by omega, by omega⟩ ⟨by omega, by omega⟩ (fun (zc5 : 4 ≤ 3) => absurd zc5 (by omega)) (fun (zc5 : ¬ 4 ≤ 3) => ?_)
  refine m_run 4 (ps' := (74, [some (.inl 3), some (.inl 125), some (.inl 2)], [.inl 3], mW (n, T, h, t, x) M, 0, 0)) rfl ?_
  refine m_if rfl ⟨by omega, by omega⟩ (fun (zc6 : ¬ 3 = 0) => ?_) (fun (zc6 : ¬ ¬ 3 = 0) => absurd zc6 (not_not_intro (by omega)))
  refine m_run 8 (ps' := (91, [some (.inl 3), some (.inl 125), some (.inl 2)], [.inl 2, .inl 8388608, .inl (3 - 2), .inl ((Int32.ofInt 125 <<< (Int32.ofInt 23 &&& 31)).toInt)], mW (n, T, h, t, x) M, 0, 0)) rfl ?_
  refine m_div rfl (by omega) (by omega) (by omega) (by omega) ?_
  refine m_run 2 (ps' := (94, [some (.inl 3), some (.inl 125), some (.inl 2)], [.inl ((Int32.ofInt 125 <<< (Int32.ofInt 23 &&& 31)).toInt + ((3 - 2) * (8388608 / 2)))], mW (n, T, h, t, x) M, 0, 0)) rfl ?_
  exact m_ret1 rfl (Or.inl rfl) rfl (m_Vi (by decide +kernel))
set_option maxHeartbeats 4000000 in
set_option maxRecDepth 100000 in
theorem a_e4 {X : Nat × Nat × (Nat → Int32)} {n : Int} {T : Int → Int} {h : HS} {t : TS} {x : XS} {M : MS} : m_Run X 54 [.inl 4] (mW (n, T, h, t, x) M) (m_V (shB 4) (mW (n, T, h, t, x) M)) := by
  show m_Sem X 54 (0, [some (.inl 4), none, none], [], mW (n, T, h, t, x) M, 0, 0) _
  refine m_run 1 (ps' := (1, [some (.inl 4), none, none], [.inl 4], mW (n, T, h, t, x) M, 0, 0)) rfl ?_
  refine m_if rfl ⟨by omega, by omega⟩ (fun (zc1 : ¬ 4 = 0) => ?_) (fun (zc1 : ¬ ¬ 4 = 0) => absurd zc1 (not_not_intro (by omega)))
  refine m_run 2 (ps' := (10, [some (.inl 4), none, none], [.inl 2, .inl 4], mW (n, T, h, t, x) M, 0, 0)) rfl ?_
  refine m_icmp rfl ⟨by omega, by omega⟩ ⟨by omega, by omega⟩ (fun (zc2 : 2 ≤ 4) => ?_) (fun (zc2 : ¬ 2 ≤ 4) => absurd zc2 (not_not_intro (by omega)))
  refine m_run 2 (ps' := (20, [some (.inl 4), none, none], [.inl 4, .inl 4], mW (n, T, h, t, x) M, 0, 0)) rfl ?_
  refine m_icmp rfl ⟨by omega, by omega⟩ ⟨by omega, by omega⟩ (fun (zc3 : 4 ≤ 4) => ?_) (fun (zc3 : ¬ 4 ≤ 4) => absurd zc3 (not_not_intro (by omega)))
  refine m_run 2 (ps' := (31, [some (.inl 4), none, none], [.inl 8, .inl 4], mW (n, T, h, t, x) M, 0, 0)) rfl ?_
  refine m_icmp rfl ⟨by omega, by omega⟩ ⟨by omega, by omega⟩ (fun (zc4 : 8 ≤ 4) => absurd zc4 (by omega)) (fun (zc4 : ¬ 8 ≤ 4) => ?_)
  refine m_run 5 (ps' := (44, [some (.inl 4), some (.inl 126), none], [.inl 2, .inl 4], mW (n, T, h, t, x) M, 0, 0)) rfl ?_
  refine m_icmp rfl ⟨by omega, by omega⟩ ⟨by omega, by omega⟩ (fun (zc5 : 2 ≤ 4) => ?_) (fun (zc5 : ¬ 2 ≤ 4) => absurd zc5 (not_not_intro (by omega)))
  refine m_run 2 (ps' := (53, [some (.inl 4), some (.inl 126), none], [.inl 4, .inl 4], mW (n, T, h, t, x) M, 0, 0)) rfl ?_
  refine m_icmp rfl ⟨by omega, by omega⟩ ⟨by omega, by omega⟩ (fun (zc6 : 4 ≤ 4) => ?_) (fun (zc6 : ¬ 4 ≤ 4) => absurd zc6 (not_not_intro (by omega)))
  refine m_run 2 (ps' := (63, [some (.inl 4), some (.inl 126), none], [.inl 8, .inl 4], mW (n, T, h, t, x) M, 0, 0)) rfl ?_
  refine m_icmp rfl ⟨by omega, by omega⟩ ⟨by omega, by omega⟩ (fun (zc7 : 8 ≤ 4) => absurd zc7 (by omega)) (fun (zc7 : ¬ 8 ≤ 4) => ?_)
  refine m_run 4 (ps' := (74, [some (.inl 4), some (.inl 126), some (.inl 4)], [.inl 4], mW (n, T, h, t, x) M, 0, 0)) rfl ?_
  refine m_if rfl ⟨by omega, by omega⟩ (fun (zc8 : ¬ 4 = 0) => ?_) (fun (zc8 : ¬ ¬ 4 = 0) => absurd zc8 (not_not_intro (by omega)))
  refine m_run 8 (ps' := (91, [some (.inl 4), some (.inl 126), some (.inl 4)], [.inl 4, .inl 8388608, .inl (4 - 4), .inl ((Int32.ofInt 126 <<< (Int32.ofInt 23 &&& 31)).toInt)], mW (n, T, h, t, x) M, 0, 0)) rfl ?_
  refine m_div rfl (by omega) (by omega) (by omega) (by omega) ?_
  refine m_run 2 (ps' := (94, [some (.inl 4), some (.inl 126), some (.inl 4)], [.inl ((Int32.ofInt 126 <<< (Int32.ofInt 23 &&& 31)).toInt + ((4 - 4) * (8388608 / 4)))], mW (n, T, h, t, x) M, 0, 0)) rfl ?_
  exact m_ret1 rfl (Or.inl rfl) rfl (m_Vi (by decide +kernel))
set_option maxHeartbeats 4000000 in
set_option maxRecDepth 100000 in
theorem a_e5 {X : Nat × Nat × (Nat → Int32)} {n : Int} {T : Int → Int} {h : HS} {t : TS} {x : XS} {M : MS} : m_Run X 54 [.inl 5] (mW (n, T, h, t, x) M) (m_V (shB 5) (mW (n, T, h, t, x) M)) := by
  show m_Sem X 54 (0, [some (.inl 5), none, none], [], mW (n, T, h, t, x) M, 0, 0) _
  refine m_run 1 (ps' := (1, [some (.inl 5), none, none], [.inl 5], mW (n, T, h, t, x) M, 0, 0)) rfl ?_
  refine m_if rfl ⟨by omega, by omega⟩ (fun (zc1 : ¬ 5 = 0) => ?_) (fun (zc1 : ¬ ¬ 5 = 0) => absurd zc1 (not_not_intro (by omega)))
  refine m_run 2 (ps' := (10, [some (.inl 5), none, none], [.inl 2, .inl 5], mW (n, T, h, t, x) M, 0, 0)) rfl ?_
  refine m_icmp rfl ⟨by omega, by omega⟩ ⟨by omega, by omega⟩ (fun (zc2 : 2 ≤ 5) => ?_) (fun (zc2 : ¬ 2 ≤ 5) => absurd zc2 (not_not_intro (by omega)))
  refine m_run 2 (ps' := (20, [some (.inl 5), none, none], [.inl 4, .inl 5], mW (n, T, h, t, x) M, 0, 0)) rfl ?_
  refine m_icmp rfl ⟨by omega, by omega⟩ ⟨by omega, by omega⟩ (fun (zc3 : 4 ≤ 5) => ?_) (fun (zc3 : ¬ 4 ≤ 5) => absurd zc3 (not_not_intro (by omega)))
  refine m_run 2 (ps' := (31, [some (.inl 5), none, none], [.inl 8, .inl 5], mW (n, T, h, t, x) M, 0, 0)) rfl ?_
  refine m_icmp rfl ⟨by omega, by omega⟩ ⟨by omega, by omega⟩ (fun (zc4 : 8 ≤ 5) => absurd zc4 (by omega)) (fun (zc4 : ¬ 8 ≤ 5) => ?_)
  refine m_run 5 (ps' := (44, [some (.inl 5), some (.inl 126), none], [.inl 2, .inl 5], mW (n, T, h, t, x) M, 0, 0)) rfl ?_
  refine m_icmp rfl ⟨by omega, by omega⟩ ⟨by omega, by omega⟩ (fun (zc5 : 2 ≤ 5) => ?_) (fun (zc5 : ¬ 2 ≤ 5) => absurd zc5 (not_not_intro (by omega)))
  refine m_run 2 (ps' := (53, [some (.inl 5), some (.inl 126), none], [.inl 4, .inl 5], mW (n, T, h, t, x) M, 0, 0)) rfl ?_
  refine m_icmp rfl ⟨by omega, by omega⟩ ⟨by omega, by omega⟩ (fun (zc6 : 4 ≤ 5) => ?_) (fun (zc6 : ¬ 4 ≤ 5) => absurd zc6 (not_not_intro (by omega)))
  refine m_run 2 (ps' := (63, [some (.inl 5), some (.inl 126), none], [.inl 8, .inl 5], mW (n, T, h, t, x) M, 0, 0)) rfl ?_
  refine m_icmp rfl ⟨by omega, by omega⟩ ⟨by omega, by omega⟩ (fun (zc7 : 8 ≤ 5) => absurd zc7 (by omega)) (fun (zc7 : ¬ 8 ≤ 5) => ?_)
  refine m_run 4 (ps' := (74, [some (.inl 5), some (.inl 126), some (.inl 4)], [.inl 5], mW (n, T, h, t, x) M, 0, 0)) rfl ?_
  refine m_if rfl ⟨by omega, by omega⟩ (fun (zc8 : ¬ 5 = 0) => ?_) (fun (zc8 : ¬ ¬ 5 = 0) => absurd zc8 (not_not_intro (by omega)))
  refine m_run 8 (ps' := (91, [some (.inl 5), some (.inl 126), some (.inl 4)], [.inl 4, .inl 8388608, .inl (5 - 4), .inl ((Int32.ofInt 126 <<< (Int32.ofInt 23 &&& 31)).toInt)], mW (n, T, h, t, x) M, 0, 0)) rfl ?_
  refine m_div rfl (by omega) (by omega) (by omega) (by omega) ?_
  refine m_run 2 (ps' := (94, [some (.inl 5), some (.inl 126), some (.inl 4)], [.inl ((Int32.ofInt 126 <<< (Int32.ofInt 23 &&& 31)).toInt + ((5 - 4) * (8388608 / 4)))], mW (n, T, h, t, x) M, 0, 0)) rfl ?_
  exact m_ret1 rfl (Or.inl rfl) rfl (m_Vi (by decide +kernel))
set_option maxHeartbeats 4000000 in
set_option maxRecDepth 100000 in
theorem a_e6 {X : Nat × Nat × (Nat → Int32)} {n : Int} {T : Int → Int} {h : HS} {t : TS} {x : XS} {M : MS} : m_Run X 54 [.inl 6] (mW (n, T, h, t, x) M) (m_V (shB 6) (mW (n, T, h, t, x) M)) := by
  show m_Sem X 54 (0, [some (.inl 6), none, none], [], mW (n, T, h, t, x) M, 0, 0) _
  refine m_run 1 (ps' := (1, [some (.inl 6), none, none], [.inl 6], mW (n, T, h, t, x) M, 0, 0)) rfl ?_
  refine m_if rfl ⟨by omega, by omega⟩ (fun (zc1 : ¬ 6 = 0) => ?_) (fun (zc1 : ¬ ¬ 6 = 0) => absurd zc1 (not_not_intro (by omega)))
  refine m_run 2 (ps' := (10, [some (.inl 6), none, none], [.inl 2, .inl 6], mW (n, T, h, t, x) M, 0, 0)) rfl ?_
  refine m_icmp rfl ⟨by omega, by omega⟩ ⟨by omega, by omega⟩ (fun (zc2 : 2 ≤ 6) => ?_) (fun (zc2 : ¬ 2 ≤ 6) => absurd zc2 (not_not_intro (by omega)))
  refine m_run 2 (ps' := (20, [some (.inl 6), none, none], [.inl 4, .inl 6], mW (n, T, h, t, x) M, 0, 0)) rfl ?_
  refine m_icmp rfl ⟨by omega, by omega⟩ ⟨by omega, by omega⟩ (fun (zc3 : 4 ≤ 6) => ?_) (fun (zc3 : ¬ 4 ≤ 6) => absurd zc3 (not_not_intro (by omega)))
  refine m_run 2 (ps' := (31, [some (.inl 6), none, none], [.inl 8, .inl 6], mW (n, T, h, t, x) M, 0, 0)) rfl ?_
  refine m_icmp rfl ⟨by omega, by omega⟩ ⟨by omega, by omega⟩ (fun (zc4 : 8 ≤ 6) => absurd zc4 (by omega)) (fun (zc4 : ¬ 8 ≤ 6) => ?_)
  refine m_run 5 (ps' := (44, [some (.inl 6), some (.inl 126), none], [.inl 2, .inl 6], mW (n, T, h, t, x) M, 0, 0)) rfl ?_
  refine m_icmp rfl ⟨by omega, by omega⟩ ⟨by omega, by omega⟩ (fun (zc5 : 2 ≤ 6) => ?_) (fun (zc5 : ¬ 2 ≤ 6) => absurd zc5 (not_not_intro (by omega)))
  refine m_run 2 (ps' := (53, [some (.inl 6), some (.inl 126), none], [.inl 4, .inl 6], mW (n, T, h, t, x) M, 0, 0)) rfl ?_
  refine m_icmp rfl ⟨by omega, by omega⟩ ⟨by omega, by omega⟩ (fun (zc6 : 4 ≤ 6) => ?_) (fun (zc6 : ¬ 4 ≤ 6) => absurd zc6 (not_not_intro (by omega)))
  refine m_run 2 (ps' := (63, [some (.inl 6), some (.inl 126), none], [.inl 8, .inl 6], mW (n, T, h, t, x) M, 0, 0)) rfl ?_
  refine m_icmp rfl ⟨by omega, by omega⟩ ⟨by omega, by omega⟩ (fun (zc7 : 8 ≤ 6) => absurd zc7 (by omega)) (fun (zc7 : ¬ 8 ≤ 6) => ?_)
  refine m_run 4 (ps' := (74, [some (.inl 6), some (.inl 126), some (.inl 4)], [.inl 6], mW (n, T, h, t, x) M, 0, 0)) rfl ?_
  refine m_if rfl ⟨by omega, by omega⟩ (fun (zc8 : ¬ 6 = 0) => ?_) (fun (zc8 : ¬ ¬ 6 = 0) => absurd zc8 (not_not_intro (by omega)))
  refine m_run 8 (ps' := (91, [some (.inl 6), some (.inl 126), some (.inl 4)], [.inl 4, .inl 8388608, .inl (6 - 4), .inl ((Int32.ofInt 126 <<< (Int32.ofInt 23 &&& 31)).toInt)], mW (n, T, h, t, x) M, 0, 0)) rfl ?_
  refine m_div rfl (by omega) (by omega) (by omega) (by omega) ?_
  refine m_run 2 (ps' := (94, [some (.inl 6), some (.inl 126), some (.inl 4)], [.inl ((Int32.ofInt 126 <<< (Int32.ofInt 23 &&& 31)).toInt + ((6 - 4) * (8388608 / 4)))], mW (n, T, h, t, x) M, 0, 0)) rfl ?_
  exact m_ret1 rfl (Or.inl rfl) rfl (m_Vi (by decide +kernel))
set_option maxHeartbeats 4000000 in
set_option maxRecDepth 100000 in
theorem a_e7 {X : Nat × Nat × (Nat → Int32)} {n : Int} {T : Int → Int} {h : HS} {t : TS} {x : XS} {M : MS} : m_Run X 54 [.inl 7] (mW (n, T, h, t, x) M) (m_V (shB 7) (mW (n, T, h, t, x) M)) := by
  show m_Sem X 54 (0, [some (.inl 7), none, none], [], mW (n, T, h, t, x) M, 0, 0) _
  refine m_run 1 (ps' := (1, [some (.inl 7), none, none], [.inl 7], mW (n, T, h, t, x) M, 0, 0)) rfl ?_
  refine m_if rfl ⟨by omega, by omega⟩ (fun (zc1 : ¬ 7 = 0) => ?_) (fun (zc1 : ¬ ¬ 7 = 0) => absurd zc1 (not_not_intro (by omega)))
  refine m_run 2 (ps' := (10, [some (.inl 7), none, none], [.inl 2, .inl 7], mW (n, T, h, t, x) M, 0, 0)) rfl ?_
  refine m_icmp rfl ⟨by omega, by omega⟩ ⟨by omega, by omega⟩ (fun (zc2 : 2 ≤ 7) => ?_) (fun (zc2 : ¬ 2 ≤ 7) => absurd zc2 (not_not_intro (by omega)))
  refine m_run 2 (ps' := (20, [some (.inl 7), none, none], [.inl 4, .inl 7], mW (n, T, h, t, x) M, 0, 0)) rfl ?_
  refine m_icmp rfl ⟨by omega, by omega⟩ ⟨by omega, by omega⟩ (fun (zc3 : 4 ≤ 7) => ?_) (fun (zc3 : ¬ 4 ≤ 7) => absurd zc3 (not_not_intro (by omega)))
  refine m_run 2 (ps' := (31, [some (.inl 7), none, none], [.inl 8, .inl 7], mW (n, T, h, t, x) M, 0, 0)) rfl ?_
  refine m_icmp rfl ⟨by omega, by omega⟩ ⟨by omega, by omega⟩ (fun (zc4 : 8 ≤ 7) => absurd zc4 (by omega)) (fun (zc4 : ¬ 8 ≤ 7) => ?_)
  refine m_run 5 (ps' := (44, [some (.inl 7), some (.inl 126), none], [.inl 2, .inl 7], mW (n, T, h, t, x) M, 0, 0)) rfl ?_
  refine m_icmp rfl ⟨by omega, by omega⟩ ⟨by omega, by omega⟩ (fun (zc5 : 2 ≤ 7) => ?_) (fun (zc5 : ¬ 2 ≤ 7) => absurd zc5 (not_not_intro (by omega)))
  refine m_run 2 (ps' := (53, [some (.inl 7), some (.inl 126), none], [.inl 4, .inl 7], mW (n, T, h, t, x) M, 0, 0)) rfl ?_
  refine m_icmp rfl ⟨by omega, by omega⟩ ⟨by omega, by omega⟩ (fun (zc6 : 4 ≤ 7) => ?_) (fun (zc6 : ¬ 4 ≤ 7) => absurd zc6 (not_not_intro (by omega)))
  refine m_run 2 (ps' := (63, [some (.inl 7), some (.inl 126), none], [.inl 8, .inl 7], mW (n, T, h, t, x) M, 0, 0)) rfl ?_
  refine m_icmp rfl ⟨by omega, by omega⟩ ⟨by omega, by omega⟩ (fun (zc7 : 8 ≤ 7) => absurd zc7 (by omega)) (fun (zc7 : ¬ 8 ≤ 7) => ?_)
  refine m_run 4 (ps' := (74, [some (.inl 7), some (.inl 126), some (.inl 4)], [.inl 7], mW (n, T, h, t, x) M, 0, 0)) rfl ?_
  refine m_if rfl ⟨by omega, by omega⟩ (fun (zc8 : ¬ 7 = 0) => ?_) (fun (zc8 : ¬ ¬ 7 = 0) => absurd zc8 (not_not_intro (by omega)))
  refine m_run 8 (ps' := (91, [some (.inl 7), some (.inl 126), some (.inl 4)], [.inl 4, .inl 8388608, .inl (7 - 4), .inl ((Int32.ofInt 126 <<< (Int32.ofInt 23 &&& 31)).toInt)], mW (n, T, h, t, x) M, 0, 0)) rfl ?_
  refine m_div rfl (by omega) (by omega) (by omega) (by omega) ?_
  refine m_run 2 (ps' := (94, [some (.inl 7), some (.inl 126), some (.inl 4)], [.inl ((Int32.ofInt 126 <<< (Int32.ofInt 23 &&& 31)).toInt + ((7 - 4) * (8388608 / 4)))], mW (n, T, h, t, x) M, 0, 0)) rfl ?_
  exact m_ret1 rfl (Or.inl rfl) rfl (m_Vi (by decide +kernel))
set_option maxHeartbeats 4000000 in
set_option maxRecDepth 100000 in
theorem a_e8 {X : Nat × Nat × (Nat → Int32)} {n : Int} {T : Int → Int} {h : HS} {t : TS} {x : XS} {M : MS} : m_Run X 54 [.inl 8] (mW (n, T, h, t, x) M) (m_V (shB 8) (mW (n, T, h, t, x) M)) := by
  show m_Sem X 54 (0, [some (.inl 8), none, none], [], mW (n, T, h, t, x) M, 0, 0) _
  refine m_run 1 (ps' := (1, [some (.inl 8), none, none], [.inl 8], mW (n, T, h, t, x) M, 0, 0)) rfl ?_
  refine m_if rfl ⟨by omega, by omega⟩ (fun (zc1 : ¬ 8 = 0) => ?_) (fun (zc1 : ¬ ¬ 8 = 0) => absurd zc1 (not_not_intro (by omega)))
  refine m_run 2 (ps' := (10, [some (.inl 8), none, none], [.inl 2, .inl 8], mW (n, T, h, t, x) M, 0, 0)) rfl ?_
  refine m_icmp rfl ⟨by omega, by omega⟩ ⟨by omega, by omega⟩ (fun (zc2 : 2 ≤ 8) => ?_) (fun (zc2 : ¬ 2 ≤ 8) => absurd zc2 (not_not_intro (by omega)))
  refine m_run 2 (ps' := (20, [some (.inl 8), none, none], [.inl 4, .inl 8], mW (n, T, h, t, x) M, 0, 0)) rfl ?_
  refine m_icmp rfl ⟨by omega, by omega⟩ ⟨by omega, by omega⟩ (fun (zc3 : 4 ≤ 8) => ?_) (fun (zc3 : ¬ 4 ≤ 8) => absurd zc3 (not_not_intro (by omega)))
  refine m_run 2 (ps' := (31, [some (.inl 8), none, none], [.inl 8, .inl 8], mW (n, T, h, t, x) M, 0, 0)) rfl ?_
  refine m_icmp rfl ⟨by omega, by omega⟩ ⟨by omega, by omega⟩ (fun (zc4 : 8 ≤ 8) => ?_) (fun (zc4 : ¬ 8 ≤ 8) => absurd zc4 (not_not_intro (by omega)))
  refine m_run 4 (ps' := (44, [some (.inl 8), some (.inl 127), none], [.inl 2, .inl 8], mW (n, T, h, t, x) M, 0, 0)) rfl ?_
  refine m_icmp rfl ⟨by omega, by omega⟩ ⟨by omega, by omega⟩ (fun (zc5 : 2 ≤ 8) => ?_) (fun (zc5 : ¬ 2 ≤ 8) => absurd zc5 (not_not_intro (by omega)))
  refine m_run 2 (ps' := (53, [some (.inl 8), some (.inl 127), none], [.inl 4, .inl 8], mW (n, T, h, t, x) M, 0, 0)) rfl ?_
  refine m_icmp rfl ⟨by omega, by omega⟩ ⟨by omega, by omega⟩ (fun (zc6 : 4 ≤ 8) => ?_) (fun (zc6 : ¬ 4 ≤ 8) => absurd zc6 (not_not_intro (by omega)))
  refine m_run 2 (ps' := (63, [some (.inl 8), some (.inl 127), none], [.inl 8, .inl 8], mW (n, T, h, t, x) M, 0, 0)) rfl ?_
  refine m_icmp rfl ⟨by omega, by omega⟩ ⟨by omega, by omega⟩ (fun (zc7 : 8 ≤ 8) => ?_) (fun (zc7 : ¬ 8 ≤ 8) => absurd zc7 (not_not_intro (by omega)))
  refine m_run 3 (ps' := (74, [some (.inl 8), some (.inl 127), some (.inl 8)], [.inl 8], mW (n, T, h, t, x) M, 0, 0)) rfl ?_
  refine m_if rfl ⟨by omega, by omega⟩ (fun (zc8 : ¬ 8 = 0) => ?_) (fun (zc8 : ¬ ¬ 8 = 0) => absurd zc8 (not_not_intro (by omega)))
  refine m_run 8 (ps' := (91, [some (.inl 8), some (.inl 127), some (.inl 8)], [.inl 8, .inl 8388608, .inl (8 - 8), .inl ((Int32.ofInt 127 <<< (Int32.ofInt 23 &&& 31)).toInt)], mW (n, T, h, t, x) M, 0, 0)) rfl ?_
  refine m_div rfl (by omega) (by omega) (by omega) (by omega) ?_
  refine m_run 2 (ps' := (94, [some (.inl 8), some (.inl 127), some (.inl 8)], [.inl ((Int32.ofInt 127 <<< (Int32.ofInt 23 &&& 31)).toInt + ((8 - 8) * (8388608 / 8)))], mW (n, T, h, t, x) M, 0, 0)) rfl ?_
  exact m_ret1 rfl (Or.inl rfl) rfl (m_Vi (by decide +kernel))
theorem a_eig {X : Nat × Nat × (Nat → Int32)} {n : Int} {T : Int → Int} {h : HS} {t : TS} {x : XS} {M : MS} {v : Int} (h1 : 0 ≤ v) (h2 : v ≤ 8) : m_Run X 54 [.inl v] (mW (n, T, h, t, x) M) (m_V (shB v) (mW (n, T, h, t, x) M)) := by
  rcases (show v = 0 ∨ v = 1 ∨ v = 2 ∨ v = 3 ∨ v = 4 ∨ v = 5 ∨ v = 6 ∨ v = 7 ∨ v = 8 by omega) with rfl | rfl | rfl | rfl | rfl | rfl | rfl | rfl | rfl
  · exact a_e0
  · exact a_e1
  · exact a_e2
  · exact a_e3
  · exact a_e4
  · exact a_e5
  · exact a_e6
  · exact a_e7
  · exact a_e8
