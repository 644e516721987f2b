/-! A pure picture of the machine: ints are whole numbers that stand for their class modulo 2^32, cells are numbered in the order in which they are made; a method's run is said by m_Sem: from this picture the method comes to its end with an answer and a world of which Q holds. -/
abbrev mPV : Type := Int ⊕ (Nat ⊕ Value)
abbrev mPC : Type := (Nat × Nat × ((Int → Int) ⊕ (Nat → Int64))) ⊕ (Nat × List mPV)
abbrev mPW : Type := List mPC
abbrev mPS : Type := Nat × List (Option mPV) × List mPV × mPW × Nat × Nat
def m_cv (N0 : Nat) : mPV → Value
  | .inl x => .int (Int32.ofInt x)
  | .inr (.inl k) => .ref (N0 + k)
  | .inr (.inr v) => v
def m_cc (N0 : Nat) (aI : Nat → ClassId) : mPC → va_E
  | .inl (t, n, .inl f) => .inl (aI t, n, .inl (fun j => Int32.ofInt (f (j : Int))))
  | .inl (t, n, .inr f) => .inl (aI t, n, .inr (.inl f))
  | .inr (ci, fs) => .inr (ci, fs.map (m_cv N0))
def m_cw (N0 : Nat) (aI : Nat → ClassId) : Nat → mPW → va_W
  | _, [] => []
  | k, c :: w => (N0 + k, m_cc N0 aI c) :: m_cw N0 aI (k + 1) w
def m_as (N0 : Nat) : Nat → List (Option mPV) → List (Nat × Value)
  | _, [] => []
  | k, none :: L => m_as N0 (k + 1) L
  | k, some v :: L => (k, m_cv N0 v) :: m_as N0 (k + 1) L
def m_cat : mPV → Nat
  | .inr (.inr v) => v.category
  | _ => 1
theorem m_cat_cv (N0 : Nat) (v : mPV) : (m_cv N0 v).category = m_cat v := by
  rcases v with x | k | v <;> rfl
def m_c2 : Option mPV → Bool
  | some v => m_cat v == 2
  | none => false
/-- a variable of one word is stored -/
def m_st : List (Option mPV) → Nat → mPV → List (Option mPV)
  | [], _, _ => []
  | _ :: L, 0, v => some v :: L
  | o :: L, i + 1, v => (bif (i == 0 && m_c2 o) then none else o) :: m_st L i v
/-- a variable of two words is stored -/
def m_st2 : List (Option mPV) → Nat → mPV → List (Option mPV)
  | [], _, _ => []
  | [o], _, _ => [o]
  | _ :: _ :: L, 0, v => some v :: none :: L
  | o :: o2 :: L, i + 1, v => (bif (i == 0 && m_c2 o) then none else o) :: m_st2 (o2 :: L) i v
def m_ent : List mPV → Nat → List (Option mPV)
  | [], n => List.replicate n none
  | v :: vs, n => bif m_cat v == 2 then some v :: none :: m_ent vs (n - 2) else some v :: m_ent vs (n - 1)
theorem m_as_le {N0 : Nat} : ∀ (L : List (Option mPV)) (k : Nat) (q : Nat × Value), q ∈ m_as N0 k L → k ≤ q.1
  | [], _, _, h => by cases h
  | none :: L, k, q, h => Nat.le_of_succ_le (m_as_le L (k + 1) q h)
  | some v :: L, k, q, h => by
    rcases List.mem_cons.mp h with rfl | h
    · exact Nat.le_refl _
    · exact Nat.le_of_succ_le (m_as_le L (k + 1) q h)
theorem m_st_len : ∀ (L : List (Option mPV)) (i : Nat) (v : mPV), (m_st L i v).length = L.length
  | [], _, _ => rfl
  | _ :: _, 0, _ => rfl
  | _ :: L, i + 1, v => by simp only [m_st, List.length_cons, m_st_len L i v]
theorem m_st2_len : ∀ (L : List (Option mPV)) (i : Nat) (v : mPV), (m_st2 L i v).length = L.length
  | [], _, _ => rfl
  | [_], 0, _ => rfl
  | [_], _ + 1, _ => rfl
  | _ :: _ :: _, 0, _ => rfl
  | _ :: o2 :: L, i + 1, v => by simp only [m_st2, List.length_cons, m_st2_len (o2 :: L) i v]
theorem m_as_cons {N0 : Nat} {k : Nat} {o : Option mPV} {L : List (Option mPV)} {q : Nat × Value} : q ∈ m_as N0 k (o :: L) ↔ (∃ v, o = some v ∧ q = (k, m_cv N0 v)) ∨ q ∈ m_as N0 (k + 1) L := by
  cases o with
  | none => simp [m_as]
  | some v => simp [m_as]
theorem m_kill {N0 k i : Nat} {o : Option mPV} {v : mPV} (h : (bif (i == 0 && m_c2 o) then none else o) = some v) : o = some v ∧ ¬ (k + 1 = k + (i + 1) ∧ (m_cv N0 v).category = 2) := by
  cases hb : (i == 0 && m_c2 o) with
  | true => rw [hb] at h; cases h
  | false =>
    rw [hb] at h
    have h : o = some v := h
    refine ⟨h, fun hc => ?_⟩
    subst h
    have h0 : i = 0 := by omega
    subst h0
    rw [m_cat_cv] at hc
    simp [m_c2, hc.2] at hb
theorem m_st_mem {N0 : Nat} : ∀ (L : List (Option mPV)) (k i : Nat) (v : mPV) (q : Nat × Value), q ∈ m_as N0 k (m_st L i v) → q = (k + i, m_cv N0 v) ∨ (q ∈ m_as N0 k L ∧ ¬ q.1 = k + i ∧ ¬ (q.1 + 1 = k + i ∧ q.2.category = 2))
  | [], _, _, _, _, h => by cases h
  | o :: L, k, 0, v, q, h => by
    rcases m_as_cons.mp h with ⟨v', h1, h2⟩ | h
    · cases h1
      exact Or.inl h2
    · have := m_as_le L (k + 1) q h
      exact Or.inr ⟨m_as_cons.mpr (Or.inr h), by omega, by omega⟩
  | o :: L, k, i + 1, v, q, h => by
    rcases m_as_cons.mp h with ⟨v', h1, rfl⟩ | h
    · obtain ⟨h2, h3⟩ := m_kill (N0 := N0) (k := k) h1
      exact Or.inr ⟨m_as_cons.mpr (Or.inl ⟨v', h2, rfl⟩), by show ¬ k = _; omega, h3⟩
    · rcases m_st_mem L (k + 1) i v q h with h | ⟨h1, h2, h3⟩
      · exact Or.inl (by rw [h]; congr 1; omega)
      · exact Or.inr ⟨m_as_cons.mpr (Or.inr h1), by omega, by rw [show k + (i + 1) = k + 1 + i by omega]; exact h3⟩
theorem m_st2_mem {N0 : Nat} : ∀ (L : List (Option mPV)) (k i : Nat) (v : mPV) (q : Nat × Value), i + 1 < L.length → q ∈ m_as N0 k (m_st2 L i v) → q = (k + i, m_cv N0 v) ∨ (q ∈ m_as N0 k L ∧ ¬ q.1 = k + i ∧ ¬ q.1 = k + i + 1 ∧ ¬ (q.1 + 1 = k + i ∧ q.2.category = 2))
  | [], _, _, _, _, hl, h => by cases h
  | [_], _, _, _, _, hl, h => absurd hl (by simp)
  | o :: o2 :: L, k, 0, v, q, hl, h => by
    rcases m_as_cons.mp h with ⟨v', h1, h2⟩ | h
    · cases h1
      exact Or.inl h2
    · rcases m_as_cons.mp h with ⟨v', h1, h2⟩ | h
      · cases h1
      · have := m_as_le L (k + 1 + 1) q h
        exact Or.inr ⟨m_as_cons.mpr (Or.inr (m_as_cons.mpr (Or.inr h))), by omega, by omega, by omega⟩
  | o :: o2 :: L, k, i + 1, v, q, hl, h => by
    rcases m_as_cons.mp h with ⟨v', h1, rfl⟩ | h
    · obtain ⟨h2, h3⟩ := m_kill (N0 := N0) (k := k) h1
      exact Or.inr ⟨m_as_cons.mpr (Or.inl ⟨v', h2, rfl⟩), by show ¬ k = _; omega, by show ¬ k = _; omega, h3⟩
    · rcases m_st2_mem (o2 :: L) (k + 1) i v q (by simp only [List.length_cons] at hl ⊢; omega) h with h | ⟨h1, h2, h3, h4⟩
      · exact Or.inl (by rw [h]; congr 1; omega)
      · exact Or.inr ⟨m_as_cons.mpr (Or.inr h1), by omega, by omega, by rw [show k + (i + 1) = k + 1 + i by omega]; exact h4⟩
theorem m_has_mono {ls : Array Slot} {n : Nat} {l l' : List (Nat × Value)} (h : lv_has ls n l) (hs : ∀ q ∈ l', q ∈ l) : lv_has ls n l' := ⟨h.1, h.2.1, fun q hq => h.2.2 q (hs q hq)⟩
theorem m_has_st {ls : Array Slot} {n N0 i : Nat} {L : List (Option mPV)} {v : mPV} {x : Value} (hx : m_cv N0 v = x) (h : lv_has ls n ((i, x) :: (m_as N0 0 L).filter (fun q => !(q.1 == i) && !(q.1 + 1 == i && q.2.category == 2)))) : lv_has ls n (m_as N0 0 (m_st L i v)) := by
  subst hx
  refine m_has_mono h (fun q hq => ?_)
  rcases m_st_mem L 0 i v q hq with h | ⟨h1, h2, h3⟩
  · rw [h, Nat.zero_add]; exact List.mem_cons_self
  · refine List.mem_cons_of_mem _ (List.mem_filter.mpr ⟨h1, ?_⟩)
    rw [Nat.zero_add] at h2 h3
    simp only [Bool.and_eq_true, Bool.not_eq_true', beq_eq_false_iff_ne, ne_eq, Bool.and_eq_false_iff]
    refine ⟨h2, ?_⟩
    by_cases hc : q.1 + 1 = i
    · exact Or.inr (fun hz => h3 ⟨hc, hz⟩)
    · exact Or.inl hc
theorem m_has_st2 {ls : Array Slot} {n N0 i : Nat} {L : List (Option mPV)} {v : mPV} {x : Value} (hx : m_cv N0 v = x) (hi : i + 1 < L.length) (h : lv_has ls n ((i, x) :: (m_as N0 0 L).filter (fun q => !(q.1 == i) && (!(q.1 == i + 1) && !(q.1 + 1 == i && q.2.category == 2))))) : lv_has ls n (m_as N0 0 (m_st2 L i v)) := by
  subst hx
  refine m_has_mono h (fun q hq => ?_)
  rcases m_st2_mem L 0 i v q hi hq with h | ⟨h1, h2, h3, h4⟩
  · rw [h, Nat.zero_add]; exact List.mem_cons_self
  · refine List.mem_cons_of_mem _ (List.mem_filter.mpr ⟨h1, ?_⟩)
    rw [Nat.zero_add] at h2 h3 h4
    simp only [Bool.and_eq_true, Bool.not_eq_true', beq_eq_false_iff_ne, ne_eq, Bool.and_eq_false_iff]
    refine ⟨h2, h3, ?_⟩
    by_cases hc : q.1 + 1 = i
    · exact Or.inr (fun hz => h4 ⟨hc, hz⟩)
    · exact Or.inl hc
theorem m_as_get {N0 : Nat} : ∀ (L : List (Option mPV)) (k i : Nat) (v : mPV), L[i]? = some (some v) → (k + i, m_cv N0 v) ∈ m_as N0 k L
  | [], _, _, _, h => by simp at h
  | o :: L, k, 0, v, h => by
    simp at h
    subst h
    exact List.mem_cons_self
  | o :: L, k, i + 1, v, h => by
    have := m_as_get (N0 := N0) L (k + 1) i v (by simpa using h)
    rw [show k + (i + 1) = k + 1 + i by omega]
    exact m_as_cons.mpr (Or.inr this)
theorem m_has_get {ls : Array Slot} {n N0 i : Nat} {L : List (Option mPV)} {v : mPV} (h : lv_has ls n (m_as N0 0 L)) (hv : L[i]? = some (some v)) : ls[i]? = some (.val (m_cv N0 v)) := by
  have := h.2.2 _ (m_as_get L 0 i v hv)
  rw [Nat.zero_add] at this
  exact this
theorem m_as_rep {N0 : Nat} : ∀ (n k : Nat), m_as N0 k (List.replicate n none) = []
  | 0, _ => rfl
  | n + 1, k => by rw [List.replicate_succ]; exact m_as_rep n (k + 1)
theorem m_ent_mem {N0 : Nat} : ∀ (vs : List mPV) (n k : Nat) (q : Nat × Value), q ∈ m_as N0 k (m_ent vs n) → q ∈ lv_args k (vs.map (m_cv N0))
  | [], n, k, q, h => by
    rw [m_ent, m_as_rep] at h
    cases h
  | v :: vs, n, k, q, h => by
    unfold m_ent at h
    show q ∈ lv_args k (m_cv N0 v :: vs.map (m_cv N0))
    unfold lv_args
    rw [m_cat_cv]
    cases hc : (m_cat v == 2) with
    | true =>
      rw [hc] at h
      rw [if_pos (by simpa using hc)]
      rcases m_as_cons.mp h with ⟨v', h1, rfl⟩ | h
      · cases h1
        exact List.mem_cons_self
      · rcases m_as_cons.mp h with ⟨v', h1, rfl⟩ | h
        · cases h1
        · exact List.mem_cons_of_mem _ (m_ent_mem vs (n - 2) (k + 2) q h)
    | false =>
      rw [hc] at h
      rw [if_neg (by simpa using hc)]
      rcases m_as_cons.mp h with ⟨v', h1, rfl⟩ | h
      · cases h1
        exact List.mem_cons_self
      · exact List.mem_cons_of_mem _ (m_ent_mem vs (n - 1) (k + 1) q h)
def m_words : List mPV → Nat
  | [] => 0
  | v :: vs => (bif m_cat v == 2 then 2 else 1) + m_words vs
theorem m_ent_len : ∀ (vs : List mPV) (n : Nat), m_words vs ≤ n → (m_ent vs n).length = n
  | [], n, _ => by rw [m_ent, List.length_replicate]
  | v :: vs, n, h => by
    unfold m_words at h
    unfold m_ent
    cases hc : (m_cat v == 2) with
    | true =>
      rw [hc] at h
      have h : 2 + m_words vs ≤ n := h
      show (m_ent vs (n - 2)).length + 1 + 1 = n
      rw [m_ent_len vs (n - 2) (by omega)]; omega
    | false =>
      rw [hc] at h
      have h : 1 + m_words vs ≤ n := h
      show (m_ent vs (n - 1)).length + 1 = n
      rw [m_ent_len vs (n - 1) (by omega)]; omega
theorem m_words_sl (N0 : Nat) : ∀ vs : List mPV, (lg_sl (vs.map (m_cv N0))).length = m_words vs
  | [] => rfl
  | v :: vs => by
    have ih := m_words_sl N0 vs
    unfold m_words
    rw [← ih]
    show ((m_cv N0 v :: vs.map (m_cv N0)).flatMap _).length = _
    rw [List.flatMap_cons, List.length_append]
    congr 1
    rw [m_cat_cv]
    cases hc : (m_cat v == 2) with
    | true => rw [if_pos (by simpa using hc)]; rfl
    | false => rw [if_neg (by simpa using hc)]; rfl
theorem m_entry {N0 n : Nat} (vs : List mPV) (h : m_words vs ≤ n) : ∃ ls : Array Slot, (∀ m : MethodId, entryFrame m (vs.map (m_cv N0)).toArray n = F0 m 0 ls []) ∧ lv_has ls n (m_as N0 0 (m_ent vs n)) := by
  refine ⟨_, fun m => lg_entry_eq m _ n, ?_⟩
  have h1 := lv_entry (vs.map (m_cv N0)) (n := n) (by rw [m_words_sl]; exact h)
  exact m_has_mono h1 (fun q hq => m_ent_mem vs n 0 q hq)
/-! the world -/
theorem m_cw_get {N0 : Nat} {aI : Nat → ClassId} : ∀ (w : mPW) (k i : Nat), (m_cw N0 aI k w)[i]? = (w[i]?).map (fun c => (N0 + (k + i), m_cc N0 aI c))
  | [], _, _ => by simp [m_cw]
  | c :: w, k, 0 => by simp [m_cw]
  | c :: w, k, i + 1 => by
    have := m_cw_get (N0 := N0) (aI := aI) w (k + 1) i
    simp only [m_cw, List.getElem?_cons_succ, this]
    rw [show k + 1 + i = k + (i + 1) by omega]
theorem m_cw_at {N0 : Nat} {aI : Nat → ClassId} {w : mPW} {i : Nat} {c : mPC} (h : w[i]? = some c) : (m_cw N0 aI 0 w)[i]? = some (N0 + i, m_cc N0 aI c) := by
  rw [m_cw_get, h, Nat.zero_add]; rfl
theorem m_cw_set {N0 : Nat} {aI : Nat → ClassId} : ∀ (w : mPW) (k i : Nat) (c : mPC), m_cw N0 aI k (w.set i c) = (m_cw N0 aI k w).set i (N0 + (k + i), m_cc N0 aI c)
  | [], _, _, _ => rfl
  | _ :: w, k, 0, c => rfl
  | _ :: w, k, i + 1, c => by
    simp only [List.set_cons_succ, m_cw, m_cw_set w (k + 1) i c]
    rw [show k + 1 + i = k + (i + 1) by omega]
theorem m_cw_app {N0 : Nat} {aI : Nat → ClassId} : ∀ (w : mPW) (k : Nat) (c : mPC), m_cw N0 aI k (w ++ [c]) = m_cw N0 aI k w ++ [(N0 + (k + w.length), m_cc N0 aI c)]
  | [], _, _ => rfl
  | _ :: w, k, c => by
    simp only [List.cons_append, m_cw, m_cw_app w (k + 1) c, List.length_cons]
    rw [show k + 1 + w.length = k + (w.length + 1) by omega]
theorem m_cw_D {N0 : Nat} {aI : Nat → ClassId} {w : mPW} : va_D (fun q => N0 ≤ q) (m_cw N0 aI 0 w) := by
  refine ⟨fun i j p q hi hj hpq => ?_, fun k q hk => ?_⟩
  · rw [m_cw_get] at hi hj
    obtain ⟨c, -, rfl⟩ := Option.map_eq_some_iff.mp hi
    obtain ⟨c', -, rfl⟩ := Option.map_eq_some_iff.mp hj
    have : N0 + (0 + i) = N0 + (0 + j) := hpq
    omega
  · rw [m_cw_get] at hk
    obtain ⟨c, -, rfl⟩ := Option.map_eq_some_iff.mp hk
    exact Nat.le_add_right _ _
