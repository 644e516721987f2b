def m_ri : Option mPV → Instr
  | none => .return_
  | some _ => .ireturn
def m_rv (N0 : Nat) : Option mPV → List Value
  | none => []
  | some v => [m_cv N0 v]
def m_rok (mi : Nat) : Option mPV → Prop
  | none => m_ret mi = none
  | some (.inl x) => m_ret mi = some .int ∨ (m_ret mi = some .boolean ∧ (x = 0 ∨ x = 1))
  | _ => False
def m_tys (aI : Nat → ClassId) : List (ClassId × FieldType) := [(aI 0, .int), (aI 1, .char), (aI 2, .long)]
/-- where a method's walk stands: machine, code, words, classes; X: the script's cell, its length, its ints (the law's own) -/
def m_ctx (X : Nat × Nat × (Nat → Int32)) (mi : Nat) (p : Program) (s : State) (m : MethodId) (args : Array Value) (meth : Method) (c : Code) (N0 : Nat) (aI : Nat → ClassId) (D : va_G) : Prop :=
  p.tables.exec = Jvm.exec ∧ c.code = m_cd mi ∧ c.maxLocals = m_ml mi ∧ s.vm.findClass (m_own mi) = some m.cls ∧ (∀ w ∈ lw_g, w.before args s = true) ∧ (m_kind mi = 2 → meth.name = "<init>") ∧ va_K D vwCl (m_tys aI) s ∧ N0 ≤ s.heap.size ∧ va_X X.1 X.2.1 X.2.2 s s.heap ∧ X.1 < N0
def m_fin (mi : Nat) (Q : Option mPV → mPW → Prop) (p : Program) (l : Launch) (e : Env) (s : State) (m : MethodId) (args : Array Value) (below : List Frame) (meth : Method) (c : Code) (N0 : Nat) (aI : Nat → ClassId) (D : va_G) (Qf : State → Prop) : Prop :=
  ∀ (r : Option mPV) (w : mPW) (H : Heap) (locs : List Loc) (n pc : Nat) (ls : Array Slot), Q r w → m_rok mi r → va_P D vwCl (m_cw N0 aI 0 w) H → va_S (fun q => N0 ≤ q) s.heap H locs → (mi = 0 ∨ s.heap.size + (m_rm mi).cells = N0 + w.length) → n ≤ (m_rm mi).slots → decode (m_cd mi) pc = .ok (m_ri r, 1) →
    W p l e (m_rm mi) s m args below meth c H locs (m_rm mi).cells n Qf (F0 m pc ls (m_rv N0 r))
def m_Sem (X : Nat × Nat × (Nat → Int32)) (mi : Nat) (ps : mPS) (Q : Option mPV → mPW → Prop) : Prop :=
  ∀ (p : Program) (l : Launch) (e : Env) (s : State) (m : MethodId) (args : Array Value) (below : List Frame) (meth : Method) (c : Code) (N0 : Nat) (aI : Nat → ClassId) (D : va_G) (Qf : State → Prop),
  m_ctx X mi p s m args meth c N0 aI D → m_fin mi Q p l e s m args below meth c N0 aI D Qf →
  ∀ (H : Heap) (locs : List Loc) (ls : Array Slot) (k n : Nat), lv_has ls (m_ml mi) (m_as N0 0 ps.2.1) → ps.2.1.length = m_ml mi → va_P D vwCl (m_cw N0 aI 0 ps.2.2.2.1) H → va_S (fun q => N0 ≤ q) s.heap H locs → s.heap.size + k = N0 + ps.2.2.2.1.length → k + ps.2.2.2.2.1 = (m_rm mi).cells → n + ps.2.2.2.2.2 ≤ (m_rm mi).slots →
  W p l e (m_rm mi) s m args below meth c H locs k n Qf (F0 m ps.1 ls (ps.2.2.1.map (m_cv N0)))
def m_bin (f : Int → Int → Int) (pc : Nat) (L : List (Option mPV)) (w : mPW) (bc bs : Nat) : List mPV → Option mPS
  | .inl b :: .inl a :: S => some (pc + 1, L, .inl (f a b) :: S, w, bc, bs)
  | _ => none
def m_binL (f : Int64 → Int64 → Int64) (pc : Nat) (L : List (Option mPV)) (w : mPW) (bc bs : Nat) : List mPV → Option mPS
  | .inr (.inr (.long b)) :: .inr (.inr (.long a)) :: S => some (pc + 1, L, .inr (.inr (.long (f a b))) :: S, w, bc, bs)
  | _ => none
def m_ldI (o : Option (Option mPV)) (pc : Nat) (L : List (Option mPV)) (S : List mPV) (w : mPW) (bc bs : Nat) : Option mPS := match o with
  | some (some (.inl v)) => some (pc, L, .inl v :: S, w, bc, bs)
  | _ => none
def m_ldA (o : Option (Option mPV)) (pc : Nat) (L : List (Option mPV)) (S : List mPV) (w : mPW) (bc bs : Nat) : Option mPS := match o with
  | some (some (.inr (.inl v))) => some (pc, L, .inr (.inl v) :: S, w, bc, bs)
  | some (some (.inr (.inr (.ref v)))) => some (pc, L, .inr (.inr (.ref v)) :: S, w, bc, bs)
  | _ => none
def m_ldL (o : Option (Option mPV)) (pc : Nat) (L : List (Option mPV)) (S : List mPV) (w : mPW) (bc bs : Nat) : Option mPS := match o with
  | some (some (.inr (.inr (.long v)))) => some (pc, L, .inr (.inr (.long v)) :: S, w, bc, bs)
  | _ => none
def m_ldF (o : Option (Option mPV)) (pc : Nat) (L : List (Option mPV)) (S : List mPV) (w : mPW) (bc bs : Nat) : Option mPS := match o with
  | some (some (.inr (.inr (.float v)))) => some (pc, L, .inr (.inr (.float v)) :: S, w, bc, bs)
  | _ => none
def m_stI (i pc : Nat) (L : List (Option mPV)) (w : mPW) (bc bs : Nat) : List mPV → Option mPS
  | .inl v :: S => bif Nat.blt i L.length then some (pc, m_st L i (.inl v), S, w, bc, bs) else none
  | _ => none
def m_stA (i pc : Nat) (L : List (Option mPV)) (w : mPW) (bc bs : Nat) : List mPV → Option mPS
  | .inr (.inl v) :: S => bif Nat.blt i L.length then some (pc, m_st L i (.inr (.inl v)), S, w, bc, bs) else none
  | _ => none
def m_stF (i pc : Nat) (L : List (Option mPV)) (w : mPW) (bc bs : Nat) : List mPV → Option mPS
  | .inr (.inr (.float v)) :: S => bif Nat.blt i L.length then some (pc, m_st L i (.inr (.inr (.float v))), S, w, bc, bs) else none
  | _ => none
def m_stL (i pc : Nat) (L : List (Option mPV)) (w : mPW) (bc bs : Nat) : List mPV → Option mPS
  | .inr (.inr (.long v)) :: S => bif Nat.blt (i + 1) L.length then some (pc, m_st2 L i (.inr (.inr (.long v))), S, w, bc, bs) else none
  | _ => none
def m_dfl : List (List mPV) := [[.inr (.inr .null), .inr (.inr .null), .inl 0], [.inr (.inr .null), .inr (.inr .null), .inr (.inr .null), .inl 0, .inl 0, .inl 0], [.inr (.inr .null)], [.inl 0, .inr (.inr .null)], [.inr (.inr .null), .inl 0], [.inr (.inr .null), .inr (.inr .null), .inr (.inr .null), .inr (.inr .null), .inr (.inr .null)]]
def m_getf (x y pc : Nat) (L : List (Option mPV)) (w : mPW) (bc bs : Nat) : List mPV → Option mPS
  | .inr (.inl q) :: S => match w[q]? with
    | some (.inr (ci, fs)) => bif Nat.beq ci x then (match fs[y]? with | some v => some (pc, L, v :: S, w, bc, bs) | none => none) else none
    | _ => none
  | _ => none
def m_putI (x y pc : Nat) (L : List (Option mPV)) (w : mPW) (bc bs : Nat) : List mPV → Option mPS
  | .inl v :: .inr (.inl q) :: S => match w[q]? with
    | some (.inr (ci, fs)) => bif Nat.beq ci x && Nat.blt y fs.length then some (pc, L, S, w.set q (.inr (ci, fs.set y (.inl v))), bc, bs) else none
    | _ => none
  | _ => none
def m_putA (x y pc : Nat) (L : List (Option mPV)) (w : mPW) (bc bs : Nat) : List mPV → Option mPS
  | .inr (.inl v) :: .inr (.inl q) :: S => match w[q]? with
    | some (.inr (ci, fs)) => bif Nat.beq ci x && Nat.blt y fs.length then some (pc, L, S, w.set q (.inr (ci, fs.set y (.inr (.inl v)))), bc, bs) else none
    | _ => none
  | _ => none
def m_newo (x pc : Nat) (L : List (Option mPV)) (S : List mPV) (w : mPW) (bc bs : Nat) : Option mPS := match vwCl[x]?, m_dfl[x]?, bc with
  | some r, some fs, b + 1 => bif Nat.ble r.2.2 bs then some (pc, L, .inr (.inl w.length) :: S, w ++ [.inr (x, fs)], b, bs - r.2.2) else none
  | _, _, _ => none
def m_newr (x pc : Nat) (L : List (Option mPV)) (w : mPW) (bc bs : Nat) : List mPV → Option mPS
  | .inl (.ofNat v) :: S => match bc with
    | b + 1 => bif Nat.ble v bs && Nat.ble v 65536 && Nat.blt x 3 then some (pc, L, .inr (.inl w.length) :: S, w ++ [.inl (x, v, bif Nat.beq x 2 then .inr (fun _ => 0) else .inl (fun _ => 0))], b, bs - v) else none
    | _ => none
  | _ => none
def m_exec (mi : Nat) (ins : Instr) (x y : Nat) (z : Int) (pc : Nat) (L : List (Option mPV)) (S : List mPV) (w : mPW) (bc bs : Nat) : Option mPS := match ins with
  | .iload i => m_ldI L[i]? (pc + 2) L S w bc bs
  | .iload_n i => m_ldI L[(i : Nat)]? (pc + 1) L S w bc bs
  | .aload i => m_ldA L[i]? (pc + 2) L S w bc bs
  | .aload_n i => m_ldA L[(i : Nat)]? (pc + 1) L S w bc bs
  | .lload i => m_ldL L[i]? (pc + 2) L S w bc bs
  | .lload_n i => m_ldL L[(i : Nat)]? (pc + 1) L S w bc bs
  | .fload_n i => m_ldF L[(i : Nat)]? (pc + 1) L S w bc bs
  | .istore i => m_stI i (pc + 2) L w bc bs S
  | .istore_n i => m_stI (i : Nat) (pc + 1) L w bc bs S
  | .astore i => m_stA i (pc + 2) L w bc bs S
  | .astore_n i => m_stA (i : Nat) (pc + 1) L w bc bs S
  | .lstore i => m_stL i (pc + 2) L w bc bs S
  | .lstore_n i => m_stL (i : Nat) (pc + 1) L w bc bs S
  | .fstore_n i => m_stF (i : Nat) (pc + 1) L w bc bs S
  | .iconst v => some (pc + 1, L, .inl v :: S, w, bc, bs)
  | .bipush _ => some (pc + 2, L, .inl z :: S, w, bc, bs)
  | .sipush _ => some (pc + 3, L, .inl z :: S, w, bc, bs)
  | .ldc _ => bif Nat.beq y 0 then some (pc + 2, L, .inl z :: S, w, bc, bs) else some (pc + 2, L, .inr (.inr (.float (UInt32.ofNat z.toNat))) :: S, w, bc, bs)
  | .ldc_w _ => bif Nat.beq y 0 then some (pc + 3, L, .inl z :: S, w, bc, bs) else none
  | .ldc2_w _ => some (pc + 3, L, .inr (.inr (.long (Int64.ofInt z))) :: S, w, bc, bs)
  | .lconst v => some (pc + 1, L, .inr (.inr (.long (Int64.ofNat (v : Nat)))) :: S, w, bc, bs)
  | .fconst v => match v with
    | 0 => some (pc + 1, L, .inr (.inr (.float FP.fconst0)) :: S, w, bc, bs)
    | 1 => some (pc + 1, L, .inr (.inr (.float FP.fconst1)) :: S, w, bc, bs)
    | 2 => some (pc + 1, L, .inr (.inr (.float FP.fconst2)) :: S, w, bc, bs)
  | .iadd => m_bin (fun a b => a + b) pc L w bc bs S
  | .isub => m_bin (fun a b => a - b) pc L w bc bs S
  | .imul => m_bin (fun a b => a * b) pc L w bc bs S
  | .iand => m_bin (fun a b => (Int32.ofInt a &&& Int32.ofInt b).toInt) pc L w bc bs S
  | .ior => m_bin (fun a b => (Int32.ofInt a ||| Int32.ofInt b).toInt) pc L w bc bs S
  | .ixor => m_bin (fun a b => (Int32.ofInt a ^^^ Int32.ofInt b).toInt) pc L w bc bs S
  | .ishl => m_bin (fun a b => (Int32.ofInt a <<< (Int32.ofInt b &&& 31)).toInt) pc L w bc bs S
  | .ishr => m_bin (fun a b => (Int32.ofInt a >>> (Int32.ofInt b &&& 31)).toInt) pc L w bc bs S
  | .iushr => m_bin (fun a b => ((Int32.ofInt a).toUInt32 >>> ((Int32.ofInt b).toUInt32 &&& Int32.toUInt32 31)).toInt32.toInt) pc L w bc bs S
  | .land => m_binL (fun a b => a &&& b) pc L w bc bs S
  | .lor => m_binL (fun a b => a ||| b) pc L w bc bs S
  | .lsub => m_binL (fun a b => a - b) pc L w bc bs S
  | .lxor => m_binL (fun a b => a ^^^ b) pc L w bc bs S
  | .i2l => match S with
    | .inl a :: S => some (pc + 1, L, .inr (.inr (.long (Int32.ofInt a).toInt64)) :: S, w, bc, bs)
    | _ => none
  | .lshl => match S with
    | .inl b :: .inr (.inr (.long a)) :: S => some (pc + 1, L, .inr (.inr (.long (a <<< ((Int32.ofInt b).toInt64 &&& 63)))) :: S, w, bc, bs)
    | _ => none
  | .lshr => match S with
    | .inl b :: .inr (.inr (.long a)) :: S => some (pc + 1, L, .inr (.inr (.long (a >>> ((Int32.ofInt b).toInt64 &&& 63)))) :: S, w, bc, bs)
    | _ => none
  | .lcmp => match S with
    | .inr (.inr (.long b)) :: .inr (.inr (.long a)) :: S => some (pc + 1, L, .inl (lg_cmp a b).toInt :: S, w, bc, bs)
    | _ => none
  | .l2i => match S with
    | .inr (.inr (.long a)) :: S => some (pc + 1, L, .inl a.toInt32.toInt :: S, w, bc, bs)
    | _ => none
  | .i2f => match S with
    | .inl a :: S => some (pc + 1, L, .inr (.inr (.float (FP.i2f (Int32.ofInt a)))) :: S, w, bc, bs)
    | _ => none
  | .f2i => match S with
    | .inr (.inr (.float a)) :: S => some (pc + 1, L, .inl (FP.f2i a).toInt :: S, w, bc, bs)
    | _ => none
  | .fcmp o => match S with
    | .inr (.inr (.float b)) :: .inr (.inr (.float a)) :: S => some (pc + 1, L, .inl (Op.cmpValue (FP.fcmp a b) o).toInt :: S, w, bc, bs)
    | _ => none
  | .pop => match S with
    | v :: S => bif Nat.beq (m_cat v) 1 then some (pc + 1, L, S, w, bc, bs) else none
    | _ => none
  | .dup => match S with
    | v :: S => bif Nat.beq (m_cat v) 1 then some (pc + 1, L, v :: v :: S, w, bc, bs) else none
    | _ => none
  | .dup2 => match S with
    | u :: v :: S => bif Nat.beq (m_cat u) 1 && Nat.beq (m_cat v) 1 then some (pc + 1, L, u :: v :: u :: v :: S, w, bc, bs) else none
    | _ => none
  | .goto _ => some (x, L, S, w, bc, bs)
  | .iinc i d => match L[i]? with
    | some (some (.inl v)) => bif Nat.blt i L.length then some (pc + 3, m_st L i (.inl (v + d)), S, w, bc, bs) else none
    | _ => none
  | .arraylength => match S with
    | .inr (.inl q) :: S => match w[q]? with
      | some (.inl (t, v, _)) => bif Nat.blt t 3 then some (pc + 1, L, .inl (v : Int) :: S, w, bc, bs) else none
      | _ => none
    | _ => none
  | .getfield _ => m_getf x y (pc + 3) L w bc bs S
  | .putfield _ => if z = 0 then m_putI x y (pc + 3) L w bc bs S else m_putA x y (pc + 3) L w bc bs S
  | .new _ => m_newo x (pc + 3) L S w bc bs
  | .newarray _ => m_newr x (pc + 2) L w bc bs S
  | .invokespecial _ => match S with
    | .inr (.inl _) :: S => bif Nat.beq x 1000 && (Nat.ble 1 (m_rm mi).frames && Nat.ble ((S.map m_cat).sum + 12) (m_rm mi).locals) then some (pc + 3, L, S, w, bc, bs) else none
    | _ => none
  | _ => none
theorem m_cats (N0 : Nat) (S : List mPV) : ((S.map (m_cv N0)).map fun v => v.category).sum = (S.map m_cat).sum := by
  rw [List.map_map]
  congr 1
  exact List.map_congr_left (fun v _ => m_cat_cv N0 v)
theorem m_uw : ∀ (ci : Nat) (r : vw_C), vwCl[ci]? = some r → ∀ w ∈ u_ws r.1 r.2.1 r.2.2, w ∈ lw_g := by
  intro ci r h
  match ci, h with
  | 0, h => cases h; exact m_uw0
  | 1, h => cases h; exact m_uw1
  | 2, h => cases h; exact m_uw2
  | 3, h => cases h; exact m_uw3
  | 4, h => cases h; exact m_uw4
  | 5, h => cases h; exact m_uw5
  | k + 6, h => exact absurd h (by rw [List.getElem?_eq_none (by show 6 ≤ k + 6; omega)]; intro h; cases h)
theorem m_vt : ∀ (ci : Nat) (r : vw_C), vwCl[ci]? = some r → ∃ ty0 : Nat → FieldType, (∀ k, k < r.2.2 → parseFieldDescriptor (r.2.1 k).2.2.1 = some (ty0 k)) ∧ (∀ a, a < r.2.2 → ∀ b, b < r.2.2 → a ≠ b → (r.2.1 a).2.1 ≠ (r.2.1 b).2.1) ∧ (∀ fs, m_dfl[ci]? = some fs → ∀ N0 j, j < r.2.2 → defaultValue (ty0 j) = vp_V (fs.map (m_cv N0)) j) := by
  intro ci r h
  match ci, h with
  | 0, h =>
    cases h
    exact ⟨tyX0, tyX0_ok, nmX0, fun fs hfs N0 j hj => by
      cases hfs
      have hj : j < 3 := hj
      rcases (show j = 0 ∨ j = 1 ∨ j = 2 by omega) with rfl | rfl | rfl <;> rfl⟩
  | 1, h =>
    cases h
    exact ⟨tyX2, tyX2_ok, nmX2, fun fs hfs N0 j hj => by
      cases hfs
      have hj : j < 6 := hj
      rcases (show j = 0 ∨ j = 1 ∨ j = 2 ∨ j = 3 ∨ j = 4 ∨ j = 5 by omega) with rfl | rfl | rfl | rfl | rfl | rfl <;> rfl⟩
  | 2, h =>
    cases h
    exact ⟨tyX3, tyX3_ok, nmX3, fun fs hfs N0 j hj => by
      cases hfs
      have hj : j < 1 := hj
      rcases (show j = 0 by omega) with rfl <;> rfl⟩
  | 3, h =>
    cases h
    exact ⟨tyX4, tyX4_ok, nmX4, fun fs hfs N0 j hj => by
      cases hfs
      have hj : j < 2 := hj
      rcases (show j = 0 ∨ j = 1 by omega) with rfl | rfl <;> rfl⟩
  | 4, h =>
    cases h
    exact ⟨tyX5, tyX5_ok, nmX5, fun fs hfs N0 j hj => by
      cases hfs
      have hj : j < 2 := hj
      rcases (show j = 0 ∨ j = 1 by omega) with rfl | rfl <;> rfl⟩
  | 5, h =>
    cases h
    exact ⟨tyX6, tyX6_ok, nmX6, fun fs hfs N0 j hj => by
      cases hfs
      have hj : j < 5 := hj
      rcases (show j = 0 ∨ j = 1 ∨ j = 2 ∨ j = 3 ∨ j = 4 by omega) with rfl | rfl | rfl | rfl | rfl <;> rfl⟩
  | k + 6, h => exact absurd h (by rw [List.getElem?_eq_none (by show 6 ≤ k + 6; omega)]; intro h; cases h)
theorem m_size {X : Nat × Nat × (Nat → Int32)} {mi : Nat} {p : Program} {l : Launch} {e : Env} {R : Room} {s : State} {m : MethodId} {args : Array Value} {below : List Frame} {meth : Method} {c : Code} {N0 : Nat} {aI : Nat → ClassId} {D : va_G} {T : State} {locs : List Loc} {k n : Nat} {w : mPW}
    (h0 : N0 ≤ s.heap.size) (hP : va_P D vwCl (m_cw N0 aI 0 w) T.heap) (hS : va_S (fun q => N0 ≤ q) s.heap T.heap locs) (hk : s.heap.size + k = N0 + w.length) (X : Stand p l e R s m args below meth c T locs k n) : T.heap.size = N0 + w.length := by
  have h1 := X.heapSize
  have h2 : N0 + w.length ≤ T.heap.size := by
    cases w with
    | nil =>
      have h3 := hS.1
      have h4 : N0 + ([] : mPW).length = N0 := rfl
      omega
    | cons a w =>
      have hlt : w.length < (a :: w).length := Nat.lt_succ_self _
      have h3 := (hP w.length _ (m_cw_at (List.getElem?_eq_getElem hlt))).lt
      have h4 : N0 + w.length < T.heap.size := h3
      show N0 + (w.length + 1) ≤ _
      omega
  omega
set_option maxHeartbeats 4000000 in
set_option maxRecDepth 100000 in
theorem m_x_iload {X : Nat × Nat × (Nat → Int32)} {mi pc x y : Nat} {i : Nat} {z : Int} {L : List (Option mPV)} {S : List mPV} {w : mPW} {bc bs : Nat} {ps' : mPS} {Q : Option mPV → mPW → Prop} (hf : m_fetch mi pc = some (pc, (.iload i), x, y, z)) (he : m_exec mi (.iload i) x y z pc L S w bc bs = some ps') (K : m_Sem X mi ps' Q) : m_Sem X mi (pc, L, S, w, bc, bs) Q := by
  intro p l e s m args below meth c N0 aI D Qf hC hF H locs ls k n hl hlen hP hS hk hb1 hb2
  have hok := (m_fetch_ok hf).2
  obtain ⟨hx, hb, hml, hown, hts, hin, hK, h0, hX⟩ := id hC
  unfold m_okb at hok
  simp only [Bool.and_eq_true] at hok
  obtain ⟨hok1, hok2⟩ := hok
  dsimp only at hok1 hok2 hl hlen hP hS hk hb1 hb2
  have hdec := of_decide_eq_true hok1
  dsimp only [m_len] at hdec
  simp only [m_exec, m_ldI] at he
  split at he
  next hv =>
    cases he
    refine lv_iload hx hb hdec (m_has_get hl hv) ?_
    exact K p l e s m args below meth c N0 aI D Qf hC hF H locs ls k n hl hlen hP hS hk hb1 hb2
  next => cases he
set_option maxHeartbeats 4000000 in
set_option maxRecDepth 100000 in
theorem m_x_lload {X : Nat × Nat × (Nat → Int32)} {mi pc x y : Nat} {i : Nat} {z : Int} {L : List (Option mPV)} {S : List mPV} {w : mPW} {bc bs : Nat} {ps' : mPS} {Q : Option mPV → mPW → Prop} (hf : m_fetch mi pc = some (pc, (.lload i), x, y, z)) (he : m_exec mi (.lload i) x y z pc L S w bc bs = some ps') (K : m_Sem X mi ps' Q) : m_Sem X mi (pc, L, S, w, bc, bs) Q := by
  intro p l e s m args below meth c N0 aI D Qf hC hF H locs ls k n hl hlen hP hS hk hb1 hb2
  have hok := (m_fetch_ok hf).2
  obtain ⟨hx, hb, hml, hown, hts, hin, hK, h0, hX⟩ := id hC
  unfold m_okb at hok
  simp only [Bool.and_eq_true] at hok
  obtain ⟨hok1, hok2⟩ := hok
  dsimp only at hok1 hok2 hl hlen hP hS hk hb1 hb2
  have hdec := of_decide_eq_true hok1
  dsimp only [m_len] at hdec
  simp only [m_exec, m_ldL] at he
  split at he
  next hv =>
    cases he
    refine lv_lload hx hb hdec (m_has_get hl hv) ?_
    exact K p l e s m args below meth c N0 aI D Qf hC hF H locs ls k n hl hlen hP hS hk hb1 hb2
  next => cases he
set_option maxHeartbeats 4000000 in
set_option maxRecDepth 100000 in
theorem m_x_iload_n {X : Nat × Nat × (Nat → Int32)} {mi pc x y : Nat} {i : Fin 4} {z : Int} {L : List (Option mPV)} {S : List mPV} {w : mPW} {bc bs : Nat} {ps' : mPS} {Q : Option mPV → mPW → Prop} (hf : m_fetch mi pc = some (pc, (.iload_n i), x, y, z)) (he : m_exec mi (.iload_n i) x y z pc L S w bc bs = some ps') (K : m_Sem X mi ps' Q) : m_Sem X mi (pc, L, S, w, bc, bs) Q := by
  intro p l e s m args below meth c N0 aI D Qf hC hF H locs ls k n hl hlen hP hS hk hb1 hb2
  have hok := (m_fetch_ok hf).2
  obtain ⟨hx, hb, hml, hown, hts, hin, hK, h0, hX⟩ := id hC
  unfold m_okb at hok
  simp only [Bool.and_eq_true] at hok
  obtain ⟨hok1, hok2⟩ := hok
  dsimp only at hok1 hok2 hl hlen hP hS hk hb1 hb2
  have hdec := of_decide_eq_true hok1
  dsimp only [m_len] at hdec
  simp only [m_exec, m_ldI] at he
  split at he
  next hv =>
    cases he
    refine lv_iload_n hx hb hdec rfl (m_has_get hl hv) ?_
    exact K p l e s m args below meth c N0 aI D Qf hC hF H locs ls k n hl hlen hP hS hk hb1 hb2
  next => cases he
set_option maxHeartbeats 4000000 in
set_option maxRecDepth 100000 in
theorem m_x_lload_n {X : Nat × Nat × (Nat → Int32)} {mi pc x y : Nat} {i : Fin 4} {z : Int} {L : List (Option mPV)} {S : List mPV} {w : mPW} {bc bs : Nat} {ps' : mPS} {Q : Option mPV → mPW → Prop} (hf : m_fetch mi pc = some (pc, (.lload_n i), x, y, z)) (he : m_exec mi (.lload_n i) x y z pc L S w bc bs = some ps') (K : m_Sem X mi ps' Q) : m_Sem X mi (pc, L, S, w, bc, bs) Q := by
  intro p l e s m args below meth c N0 aI D Qf hC hF H locs ls k n hl hlen hP hS hk hb1 hb2
  have hok := (m_fetch_ok hf).2
  obtain ⟨hx, hb, hml, hown, hts, hin, hK, h0, hX⟩ := id hC
  unfold m_okb at hok
  simp only [Bool.and_eq_true] at hok
  obtain ⟨hok1, hok2⟩ := hok
  dsimp only at hok1 hok2 hl hlen hP hS hk hb1 hb2
  have hdec := of_decide_eq_true hok1
  dsimp only [m_len] at hdec
  simp only [m_exec, m_ldL] at he
  split at he
  next hv =>
    cases he
    refine lv_lload_n hx hb hdec rfl (m_has_get hl hv) ?_
    exact K p l e s m args below meth c N0 aI D Qf hC hF H locs ls k n hl hlen hP hS hk hb1 hb2
  next => cases he
set_option maxHeartbeats 4000000 in
set_option maxRecDepth 100000 in
theorem m_x_fload_n {X : Nat × Nat × (Nat → Int32)} {mi pc x y : Nat} {i : Fin 4} {z : Int} {L : List (Option mPV)} {S : List mPV} {w : mPW} {bc bs : Nat} {ps' : mPS} {Q : Option mPV → mPW → Prop} (hf : m_fetch mi pc = some (pc, (.fload_n i), x, y, z)) (he : m_exec mi (.fload_n i) x y z pc L S w bc bs = some ps') (K : m_Sem X mi ps' Q) : m_Sem X mi (pc, L, S, w, bc, bs) Q := by
  intro p l e s m args below meth c N0 aI D Qf hC hF H locs ls k n hl hlen hP hS hk hb1 hb2
  have hok := (m_fetch_ok hf).2
  obtain ⟨hx, hb, hml, hown, hts, hin, hK, h0, hX⟩ := id hC
  unfold m_okb at hok
  simp only [Bool.and_eq_true] at hok
  obtain ⟨hok1, hok2⟩ := hok
  dsimp only at hok1 hok2 hl hlen hP hS hk hb1 hb2
  have hdec := of_decide_eq_true hok1
  dsimp only [m_len] at hdec
  simp only [m_exec, m_ldF] at he
  split at he
  next hv =>
    cases he
    refine lv_fload_n hx hb hdec rfl (m_has_get hl hv) ?_
    exact K p l e s m args below meth c N0 aI D Qf hC hF H locs ls k n hl hlen hP hS hk hb1 hb2
  next => cases he
set_option maxHeartbeats 4000000 in
set_option maxRecDepth 100000 in
theorem m_x_aload {X : Nat × Nat × (Nat → Int32)} {mi pc x y : Nat} {i : Nat} {z : Int} {L : List (Option mPV)} {S : List mPV} {w : mPW} {bc bs : Nat} {ps' : mPS} {Q : Option mPV → mPW → Prop} (hf : m_fetch mi pc = some (pc, (.aload i), x, y, z)) (he : m_exec mi (.aload i) x y z pc L S w bc bs = some ps') (K : m_Sem X mi ps' Q) : m_Sem X mi (pc, L, S, w, bc, bs) Q := by
  intro p l e s m args below meth c N0 aI D Qf hC hF H locs ls k n hl hlen hP hS hk hb1 hb2
  have hok := (m_fetch_ok hf).2
  obtain ⟨hx, hb, hml, hown, hts, hin, hK, h0, hX⟩ := id hC
  unfold m_okb at hok
  simp only [Bool.and_eq_true] at hok
  obtain ⟨hok1, hok2⟩ := hok
  dsimp only at hok1 hok2 hl hlen hP hS hk hb1 hb2
  have hdec := of_decide_eq_true hok1
  dsimp only [m_len] at hdec
  simp only [m_exec, m_ldA] at he
  split at he
  next hv =>
    cases he
    refine lv_aload hx hb hdec  (m_has_get hl hv) ?_
    exact K p l e s m args below meth c N0 aI D Qf hC hF H locs ls k n hl hlen hP hS hk hb1 hb2
  next hv =>
    cases he
    refine lv_aload hx hb hdec  (m_has_get hl hv) ?_
    exact K p l e s m args below meth c N0 aI D Qf hC hF H locs ls k n hl hlen hP hS hk hb1 hb2
  next => cases he
set_option maxHeartbeats 4000000 in
set_option maxRecDepth 100000 in
theorem m_x_aload_n {X : Nat × Nat × (Nat → Int32)} {mi pc x y : Nat} {i : Fin 4} {z : Int} {L : List (Option mPV)} {S : List mPV} {w : mPW} {bc bs : Nat} {ps' : mPS} {Q : Option mPV → mPW → Prop} (hf : m_fetch mi pc = some (pc, (.aload_n i), x, y, z)) (he : m_exec mi (.aload_n i) x y z pc L S w bc bs = some ps') (K : m_Sem X mi ps' Q) : m_Sem X mi (pc, L, S, w, bc, bs) Q := by
  intro p l e s m args below meth c N0 aI D Qf hC hF H locs ls k n hl hlen hP hS hk hb1 hb2
  have hok := (m_fetch_ok hf).2
  obtain ⟨hx, hb, hml, hown, hts, hin, hK, h0, hX⟩ := id hC
  unfold m_okb at hok
  simp only [Bool.and_eq_true] at hok
  obtain ⟨hok1, hok2⟩ := hok
  dsimp only at hok1 hok2 hl hlen hP hS hk hb1 hb2
  have hdec := of_decide_eq_true hok1
  dsimp only [m_len] at hdec
  simp only [m_exec, m_ldA] at he
  split at he
  next hv =>
    cases he
    refine lv_aload_n hx hb hdec rfl (m_has_get hl hv) ?_
    exact K p l e s m args below meth c N0 aI D Qf hC hF H locs ls k n hl hlen hP hS hk hb1 hb2
  next hv =>
    cases he
    refine lv_aload_n hx hb hdec rfl (m_has_get hl hv) ?_
    exact K p l e s m args below meth c N0 aI D Qf hC hF H locs ls k n hl hlen hP hS hk hb1 hb2
  next => cases he
set_option maxHeartbeats 4000000 in
set_option maxRecDepth 100000 in
theorem m_x_istore {X : Nat × Nat × (Nat → Int32)} {mi pc x y : Nat} {i : Nat} {z : Int} {L : List (Option mPV)} {S : List mPV} {w : mPW} {bc bs : Nat} {ps' : mPS} {Q : Option mPV → mPW → Prop} (hf : m_fetch mi pc = some (pc, (.istore i), x, y, z)) (he : m_exec mi (.istore i) x y z pc L S w bc bs = some ps') (K : m_Sem X mi ps' Q) : m_Sem X mi (pc, L, S, w, bc, bs) Q := by
  intro p l e s m args below meth c N0 aI D Qf hC hF H locs ls k n hl hlen hP hS hk hb1 hb2
  have hok := (m_fetch_ok hf).2
  obtain ⟨hx, hb, hml, hown, hts, hin, hK, h0, hX⟩ := id hC
  unfold m_okb at hok
  simp only [Bool.and_eq_true] at hok
  obtain ⟨hok1, hok2⟩ := hok
  dsimp only at hok1 hok2 hl hlen hP hS hk hb1 hb2
  have hdec := of_decide_eq_true hok1
  dsimp only [m_len] at hdec
  simp only [m_exec] at he
  unfold m_stI at he
  split at he
  next =>
    cases hi : Nat.blt (i) L.length with
    | false => rw [hi] at he; cases he
    | true =>
      rw [hi] at he
      cases he
      have hi := Nat.le_of_ble_eq_true hi
      refine lv_istore hx hb hdec  hl (by rw [← hlen]; exact hi) rfl (fun ls2 hl2 => ?_)
      exact K p l e s m args below meth c N0 aI D Qf hC hF H locs ls2 k n (m_has_st rfl hl2) (by rw [m_st_len]; exact hlen) hP hS hk hb1 hb2
  next => cases he
set_option maxHeartbeats 4000000 in
set_option maxRecDepth 100000 in
theorem m_x_istore_n {X : Nat × Nat × (Nat → Int32)} {mi pc x y : Nat} {i : Fin 4} {z : Int} {L : List (Option mPV)} {S : List mPV} {w : mPW} {bc bs : Nat} {ps' : mPS} {Q : Option mPV → mPW → Prop} (hf : m_fetch mi pc = some (pc, (.istore_n i), x, y, z)) (he : m_exec mi (.istore_n i) x y z pc L S w bc bs = some ps') (K : m_Sem X mi ps' Q) : m_Sem X mi (pc, L, S, w, bc, bs) Q := by
  intro p l e s m args below meth c N0 aI D Qf hC hF H locs ls k n hl hlen hP hS hk hb1 hb2
  have hok := (m_fetch_ok hf).2
  obtain ⟨hx, hb, hml, hown, hts, hin, hK, h0, hX⟩ := id hC
  unfold m_okb at hok
  simp only [Bool.and_eq_true] at hok
  obtain ⟨hok1, hok2⟩ := hok
  dsimp only at hok1 hok2 hl hlen hP hS hk hb1 hb2
  have hdec := of_decide_eq_true hok1
  dsimp only [m_len] at hdec
  simp only [m_exec] at he
  unfold m_stI at he
  split at he
  next =>
    cases hi : Nat.blt ((i : Nat)) L.length with
    | false => rw [hi] at he; cases he
    | true =>
      rw [hi] at he
      cases he
      have hi := Nat.le_of_ble_eq_true hi
      refine lv_istore_n hx hb hdec rfl hl (by rw [← hlen]; exact hi) rfl (fun ls2 hl2 => ?_)
      exact K p l e s m args below meth c N0 aI D Qf hC hF H locs ls2 k n (m_has_st rfl hl2) (by rw [m_st_len]; exact hlen) hP hS hk hb1 hb2
  next => cases he
set_option maxHeartbeats 4000000 in
set_option maxRecDepth 100000 in
theorem m_x_astore {X : Nat × Nat × (Nat → Int32)} {mi pc x y : Nat} {i : Nat} {z : Int} {L : List (Option mPV)} {S : List mPV} {w : mPW} {bc bs : Nat} {ps' : mPS} {Q : Option mPV → mPW → Prop} (hf : m_fetch mi pc = some (pc, (.astore i), x, y, z)) (he : m_exec mi (.astore i) x y z pc L S w bc bs = some ps') (K : m_Sem X mi ps' Q) : m_Sem X mi (pc, L, S, w, bc, bs) Q := by
  intro p l e s m args below meth c N0 aI D Qf hC hF H locs ls k n hl hlen hP hS hk hb1 hb2
  have hok := (m_fetch_ok hf).2
  obtain ⟨hx, hb, hml, hown, hts, hin, hK, h0, hX⟩ := id hC
  unfold m_okb at hok
  simp only [Bool.and_eq_true] at hok
  obtain ⟨hok1, hok2⟩ := hok
  dsimp only at hok1 hok2 hl hlen hP hS hk hb1 hb2
  have hdec := of_decide_eq_true hok1
  dsimp only [m_len] at hdec
  simp only [m_exec] at he
  unfold m_stA at he
  split at he
  next =>
    cases hi : Nat.blt (i) L.length with
    | false => rw [hi] at he; cases he
    | true =>
      rw [hi] at he
      cases he
      have hi := Nat.le_of_ble_eq_true hi
      refine lv_astore hx hb hdec  hl (by rw [← hlen]; exact hi) rfl (fun ls2 hl2 => ?_)
      exact K p l e s m args below meth c N0 aI D Qf hC hF H locs ls2 k n (m_has_st rfl hl2) (by rw [m_st_len]; exact hlen) hP hS hk hb1 hb2
  next => cases he
set_option maxHeartbeats 4000000 in
set_option maxRecDepth 100000 in
theorem m_x_astore_n {X : Nat × Nat × (Nat → Int32)} {mi pc x y : Nat} {i : Fin 4} {z : Int} {L : List (Option mPV)} {S : List mPV} {w : mPW} {bc bs : Nat} {ps' : mPS} {Q : Option mPV → mPW → Prop} (hf : m_fetch mi pc = some (pc, (.astore_n i), x, y, z)) (he : m_exec mi (.astore_n i) x y z pc L S w bc bs = some ps') (K : m_Sem X mi ps' Q) : m_Sem X mi (pc, L, S, w, bc, bs) Q := by
  intro p l e s m args below meth c N0 aI D Qf hC hF H locs ls k n hl hlen hP hS hk hb1 hb2
  have hok := (m_fetch_ok hf).2
  obtain ⟨hx, hb, hml, hown, hts, hin, hK, h0, hX⟩ := id hC
  unfold m_okb at hok
  simp only [Bool.and_eq_true] at hok
  obtain ⟨hok1, hok2⟩ := hok
  dsimp only at hok1 hok2 hl hlen hP hS hk hb1 hb2
  have hdec := of_decide_eq_true hok1
  dsimp only [m_len] at hdec
  simp only [m_exec] at he
  unfold m_stA at he
  split at he
  next =>
    cases hi : Nat.blt ((i : Nat)) L.length with
    | false => rw [hi] at he; cases he
    | true =>
      rw [hi] at he
      cases he
      have hi := Nat.le_of_ble_eq_true hi
      refine lv_astore_n hx hb hdec rfl hl (by rw [← hlen]; exact hi) rfl (fun ls2 hl2 => ?_)
      exact K p l e s m args below meth c N0 aI D Qf hC hF H locs ls2 k n (m_has_st rfl hl2) (by rw [m_st_len]; exact hlen) hP hS hk hb1 hb2
  next => cases he
set_option maxHeartbeats 4000000 in
set_option maxRecDepth 100000 in
theorem m_x_fstore_n {X : Nat × Nat × (Nat → Int32)} {mi pc x y : Nat} {i : Fin 4} {z : Int} {L : List (Option mPV)} {S : List mPV} {w : mPW} {bc bs : Nat} {ps' : mPS} {Q : Option mPV → mPW → Prop} (hf : m_fetch mi pc = some (pc, (.fstore_n i), x, y, z)) (he : m_exec mi (.fstore_n i) x y z pc L S w bc bs = some ps') (K : m_Sem X mi ps' Q) : m_Sem X mi (pc, L, S, w, bc, bs) Q := by
  intro p l e s m args below meth c N0 aI D Qf hC hF H locs ls k n hl hlen hP hS hk hb1 hb2
  have hok := (m_fetch_ok hf).2
  obtain ⟨hx, hb, hml, hown, hts, hin, hK, h0, hX⟩ := id hC
  unfold m_okb at hok
  simp only [Bool.and_eq_true] at hok
  obtain ⟨hok1, hok2⟩ := hok
  dsimp only at hok1 hok2 hl hlen hP hS hk hb1 hb2
  have hdec := of_decide_eq_true hok1
  dsimp only [m_len] at hdec
  simp only [m_exec] at he
  unfold m_stF at he
  split at he
  next =>
    cases hi : Nat.blt ((i : Nat)) L.length with
    | false => rw [hi] at he; cases he
    | true =>
      rw [hi] at he
      cases he
      have hi := Nat.le_of_ble_eq_true hi
      refine lv_fstore_n hx hb hdec rfl hl (by rw [← hlen]; exact hi) rfl (fun ls2 hl2 => ?_)
      exact K p l e s m args below meth c N0 aI D Qf hC hF H locs ls2 k n (m_has_st rfl hl2) (by rw [m_st_len]; exact hlen) hP hS hk hb1 hb2
  next => cases he
set_option maxHeartbeats 4000000 in
set_option maxRecDepth 100000 in
theorem m_x_lstore {X : Nat × Nat × (Nat → Int32)} {mi pc x y : Nat} {i : Nat} {z : Int} {L : List (Option mPV)} {S : List mPV} {w : mPW} {bc bs : Nat} {ps' : mPS} {Q : Option mPV → mPW → Prop} (hf : m_fetch mi pc = some (pc, (.lstore i), x, y, z)) (he : m_exec mi (.lstore i) x y z pc L S w bc bs = some ps') (K : m_Sem X mi ps' Q) : m_Sem X mi (pc, L, S, w, bc, bs) Q := by
  intro p l e s m args below meth c N0 aI D Qf hC hF H locs ls k n hl hlen hP hS hk hb1 hb2
  have hok := (m_fetch_ok hf).2
  obtain ⟨hx, hb, hml, hown, hts, hin, hK, h0, hX⟩ := id hC
  unfold m_okb at hok
  simp only [Bool.and_eq_true] at hok
  obtain ⟨hok1, hok2⟩ := hok
  dsimp only at hok1 hok2 hl hlen hP hS hk hb1 hb2
  have hdec := of_decide_eq_true hok1
  dsimp only [m_len] at hdec
  simp only [m_exec] at he
  unfold m_stL at he
  split at he
  next =>
    cases hi : Nat.blt (i + 1) L.length with
    | false => rw [hi] at he; cases he
    | true =>
      rw [hi] at he
      cases he
      have hi := Nat.le_of_ble_eq_true hi
      refine lv_lstore hx hb hdec  hl (by rw [← hlen]; exact hi) rfl (fun ls2 hl2 => ?_)
      exact K p l e s m args below meth c N0 aI D Qf hC hF H locs ls2 k n (m_has_st2 rfl hi hl2) (by rw [m_st2_len]; exact hlen) hP hS hk hb1 hb2
  next => cases he
set_option maxHeartbeats 4000000 in
set_option maxRecDepth 100000 in
theorem m_x_lstore_n {X : Nat × Nat × (Nat → Int32)} {mi pc x y : Nat} {i : Fin 4} {z : Int} {L : List (Option mPV)} {S : List mPV} {w : mPW} {bc bs : Nat} {ps' : mPS} {Q : Option mPV → mPW → Prop} (hf : m_fetch mi pc = some (pc, (.lstore_n i), x, y, z)) (he : m_exec mi (.lstore_n i) x y z pc L S w bc bs = some ps') (K : m_Sem X mi ps' Q) : m_Sem X mi (pc, L, S, w, bc, bs) Q := by
  intro p l e s m args below meth c N0 aI D Qf hC hF H locs ls k n hl hlen hP hS hk hb1 hb2
  have hok := (m_fetch_ok hf).2
  obtain ⟨hx, hb, hml, hown, hts, hin, hK, h0, hX⟩ := id hC
  unfold m_okb at hok
  simp only [Bool.and_eq_true] at hok
  obtain ⟨hok1, hok2⟩ := hok
  dsimp only at hok1 hok2 hl hlen hP hS hk hb1 hb2
  have hdec := of_decide_eq_true hok1
  dsimp only [m_len] at hdec
  simp only [m_exec] at he
  unfold m_stL at he
  split at he
  next =>
    cases hi : Nat.blt ((i : Nat) + 1) L.length with
    | false => rw [hi] at he; cases he
    | true =>
      rw [hi] at he
      cases he
      have hi := Nat.le_of_ble_eq_true hi
      refine lv_lstore_n hx hb hdec rfl hl (by rw [← hlen]; exact hi) rfl (fun ls2 hl2 => ?_)
      exact K p l e s m args below meth c N0 aI D Qf hC hF H locs ls2 k n (m_has_st2 rfl hi hl2) (by rw [m_st2_len]; exact hlen) hP hS hk hb1 hb2
  next => cases he
set_option maxHeartbeats 4000000 in
set_option maxRecDepth 100000 in
theorem m_x_iconst {X : Nat × Nat × (Nat → Int32)} {mi pc x y : Nat} {v : Int} {z : Int} {L : List (Option mPV)} {S : List mPV} {w : mPW} {bc bs : Nat} {ps' : mPS} {Q : Option mPV → mPW → Prop} (hf : m_fetch mi pc = some (pc, (.iconst v), x, y, z)) (he : m_exec mi (.iconst v) x y z pc L S w bc bs = some ps') (K : m_Sem X mi ps' Q) : m_Sem X mi (pc, L, S, w, bc, bs) Q := by
  intro p l e s m args below meth c N0 aI D Qf hC hF H locs ls k n hl hlen hP hS hk hb1 hb2
  have hok := (m_fetch_ok hf).2
  obtain ⟨hx, hb, hml, hown, hts, hin, hK, h0, hX⟩ := id hC
  unfold m_okb at hok
  simp only [Bool.and_eq_true] at hok
  obtain ⟨hok1, hok2⟩ := hok
  dsimp only at hok1 hok2 hl hlen hP hS hk hb1 hb2
  have hdec := of_decide_eq_true hok1
  dsimp only [m_len] at hdec
  cases he
  refine lv_iconst hx hb hdec rfl ?_
  exact K p l e s m args below meth c N0 aI D Qf hC hF H locs ls k n hl hlen hP hS hk hb1 hb2
set_option maxHeartbeats 4000000 in
set_option maxRecDepth 100000 in
theorem m_x_bipush {X : Nat × Nat × (Nat → Int32)} {mi pc x y : Nat} {v : Int} {z : Int} {L : List (Option mPV)} {S : List mPV} {w : mPW} {bc bs : Nat} {ps' : mPS} {Q : Option mPV → mPW → Prop} (hf : m_fetch mi pc = some (pc, (.bipush v), x, y, z)) (he : m_exec mi (.bipush v) x y z pc L S w bc bs = some ps') (K : m_Sem X mi ps' Q) : m_Sem X mi (pc, L, S, w, bc, bs) Q := by
  intro p l e s m args below meth c N0 aI D Qf hC hF H locs ls k n hl hlen hP hS hk hb1 hb2
  have hok := (m_fetch_ok hf).2
  obtain ⟨hx, hb, hml, hown, hts, hin, hK, h0, hX⟩ := id hC
  unfold m_okb at hok
  simp only [Bool.and_eq_true] at hok
  obtain ⟨hok1, hok2⟩ := hok
  dsimp only at hok1 hok2 hl hlen hP hS hk hb1 hb2
  have hdec := of_decide_eq_true hok1
  dsimp only [m_len] at hdec
  cases he
  refine lv_bipush hx hb hdec (of_decide_eq_true hok2) ?_
  exact K p l e s m args below meth c N0 aI D Qf hC hF H locs ls k n hl hlen hP hS hk hb1 hb2
set_option maxHeartbeats 4000000 in
set_option maxRecDepth 100000 in
theorem m_x_sipush {X : Nat × Nat × (Nat → Int32)} {mi pc x y : Nat} {v : Int} {z : Int} {L : List (Option mPV)} {S : List mPV} {w : mPW} {bc bs : Nat} {ps' : mPS} {Q : Option mPV → mPW → Prop} (hf : m_fetch mi pc = some (pc, (.sipush v), x, y, z)) (he : m_exec mi (.sipush v) x y z pc L S w bc bs = some ps') (K : m_Sem X mi ps' Q) : m_Sem X mi (pc, L, S, w, bc, bs) Q := by
  intro p l e s m args below meth c N0 aI D Qf hC hF H locs ls k n hl hlen hP hS hk hb1 hb2
  have hok := (m_fetch_ok hf).2
  obtain ⟨hx, hb, hml, hown, hts, hin, hK, h0, hX⟩ := id hC
  unfold m_okb at hok
  simp only [Bool.and_eq_true] at hok
  obtain ⟨hok1, hok2⟩ := hok
  dsimp only at hok1 hok2 hl hlen hP hS hk hb1 hb2
  have hdec := of_decide_eq_true hok1
  dsimp only [m_len] at hdec
  cases he
  refine lv_sipush hx hb hdec (of_decide_eq_true hok2) ?_
  exact K p l e s m args below meth c N0 aI D Qf hC hF H locs ls k n hl hlen hP hS hk hb1 hb2
set_option maxHeartbeats 4000000 in
set_option maxRecDepth 100000 in
theorem m_x_ldc {X : Nat × Nat × (Nat → Int32)} {mi pc x y : Nat} {i : Nat} {z : Int} {L : List (Option mPV)} {S : List mPV} {w : mPW} {bc bs : Nat} {ps' : mPS} {Q : Option mPV → mPW → Prop} (hf : m_fetch mi pc = some (pc, (.ldc i), x, y, z)) (he : m_exec mi (.ldc i) x y z pc L S w bc bs = some ps') (K : m_Sem X mi ps' Q) : m_Sem X mi (pc, L, S, w, bc, bs) Q := by
  intro p l e s m args below meth c N0 aI D Qf hC hF H locs ls k n hl hlen hP hS hk hb1 hb2
  have hok := (m_fetch_ok hf).2
  obtain ⟨hx, hb, hml, hown, hts, hin, hK, h0, hX⟩ := id hC
  unfold m_okb at hok
  simp only [Bool.and_eq_true] at hok
  obtain ⟨hok1, hok2⟩ := hok
  dsimp only at hok1 hok2 hl hlen hP hS hk hb1 hb2
  have hdec := of_decide_eq_true hok1
  dsimp only [m_len] at hdec
  have hw := m_csts_w _ (of_decide_eq_true hok2)
  simp only [m_exec] at he
  cases hy : Nat.beq y 0 with
  | true =>
    rw [hy] at he
    cases he
    refine lv_ldc hx hb hown (hts _ (hw.1 (Nat.eq_of_beq_eq_true hy))) hdec ?_
    exact K p l e s m args below meth c N0 aI D Qf hC hF H locs ls k n hl hlen hP hS hk hb1 hb2
  | false =>
    rw [hy] at he
    cases he
    refine lv_ldcf hx hb hown (hts _ (hw.2 (Nat.ne_of_beq_eq_false hy))) hdec ?_
    exact K p l e s m args below meth c N0 aI D Qf hC hF H locs ls k n hl hlen hP hS hk hb1 hb2
set_option maxHeartbeats 4000000 in
set_option maxRecDepth 100000 in
theorem m_x_ldc_w {X : Nat × Nat × (Nat → Int32)} {mi pc x y : Nat} {i : Nat} {z : Int} {L : List (Option mPV)} {S : List mPV} {w : mPW} {bc bs : Nat} {ps' : mPS} {Q : Option mPV → mPW → Prop} (hf : m_fetch mi pc = some (pc, (.ldc_w i), x, y, z)) (he : m_exec mi (.ldc_w i) x y z pc L S w bc bs = some ps') (K : m_Sem X mi ps' Q) : m_Sem X mi (pc, L, S, w, bc, bs) Q := by
  intro p l e s m args below meth c N0 aI D Qf hC hF H locs ls k n hl hlen hP hS hk hb1 hb2
  have hok := (m_fetch_ok hf).2
  obtain ⟨hx, hb, hml, hown, hts, hin, hK, h0, hX⟩ := id hC
  unfold m_okb at hok
  simp only [Bool.and_eq_true] at hok
  obtain ⟨hok1, hok2⟩ := hok
  dsimp only at hok1 hok2 hl hlen hP hS hk hb1 hb2
  have hdec := of_decide_eq_true hok1
  dsimp only [m_len] at hdec
  have hw := m_csts_w _ (of_decide_eq_true hok2)
  simp only [m_exec] at he
  cases hy : Nat.beq y 0 with
  | true =>
    rw [hy] at he
    cases he
    refine lv_ldcw hx hb hown (hts _ (hw.1 (Nat.eq_of_beq_eq_true hy))) hdec ?_
    exact K p l e s m args below meth c N0 aI D Qf hC hF H locs ls k n hl hlen hP hS hk hb1 hb2
  | false =>
    rw [hy] at he
    cases he
set_option maxHeartbeats 4000000 in
set_option maxRecDepth 100000 in
theorem m_x_ldc2_w {X : Nat × Nat × (Nat → Int32)} {mi pc x y : Nat} {i : Nat} {z : Int} {L : List (Option mPV)} {S : List mPV} {w : mPW} {bc bs : Nat} {ps' : mPS} {Q : Option mPV → mPW → Prop} (hf : m_fetch mi pc = some (pc, (.ldc2_w i), x, y, z)) (he : m_exec mi (.ldc2_w i) x y z pc L S w bc bs = some ps') (K : m_Sem X mi ps' Q) : m_Sem X mi (pc, L, S, w, bc, bs) Q := by
  intro p l e s m args below meth c N0 aI D Qf hC hF H locs ls k n hl hlen hP hS hk hb1 hb2
  have hok := (m_fetch_ok hf).2
  obtain ⟨hx, hb, hml, hown, hts, hin, hK, h0, hX⟩ := id hC
  unfold m_okb at hok
  simp only [Bool.and_eq_true] at hok
  obtain ⟨hok1, hok2⟩ := hok
  dsimp only at hok1 hok2 hl hlen hP hS hk hb1 hb2
  have hdec := of_decide_eq_true hok1
  dsimp only [m_len] at hdec
  have hw := m_cstl_w _ (of_decide_eq_true hok2)
  cases he
  refine lv_ldc2 hx hb hown (hts _ hw) hdec ?_
  exact K p l e s m args below meth c N0 aI D Qf hC hF H locs ls k n hl hlen hP hS hk hb1 hb2
set_option maxHeartbeats 4000000 in
set_option maxRecDepth 100000 in
theorem m_x_lconst {X : Nat × Nat × (Nat → Int32)} {mi pc x y : Nat} {v : Fin 2} {z : Int} {L : List (Option mPV)} {S : List mPV} {w : mPW} {bc bs : Nat} {ps' : mPS} {Q : Option mPV → mPW → Prop} (hf : m_fetch mi pc = some (pc, (.lconst v), x, y, z)) (he : m_exec mi (.lconst v) x y z pc L S w bc bs = some ps') (K : m_Sem X mi ps' Q) : m_Sem X mi (pc, L, S, w, bc, bs) Q := by
  intro p l e s m args below meth c N0 aI D Qf hC hF H locs ls k n hl hlen hP hS hk hb1 hb2
  have hok := (m_fetch_ok hf).2
  obtain ⟨hx, hb, hml, hown, hts, hin, hK, h0, hX⟩ := id hC
  unfold m_okb at hok
  simp only [Bool.and_eq_true] at hok
  obtain ⟨hok1, hok2⟩ := hok
  dsimp only at hok1 hok2 hl hlen hP hS hk hb1 hb2
  have hdec := of_decide_eq_true hok1
  dsimp only [m_len] at hdec
  cases he
  refine lv_lconst hx hb hdec rfl ?_
  exact K p l e s m args below meth c N0 aI D Qf hC hF H locs ls k n hl hlen hP hS hk hb1 hb2
set_option maxHeartbeats 4000000 in
set_option maxRecDepth 100000 in
theorem m_x_fconst {X : Nat × Nat × (Nat → Int32)} {mi pc x y : Nat} {v : Fin 3} {z : Int} {L : List (Option mPV)} {S : List mPV} {w : mPW} {bc bs : Nat} {ps' : mPS} {Q : Option mPV → mPW → Prop} (hf : m_fetch mi pc = some (pc, (.fconst v), x, y, z)) (he : m_exec mi (.fconst v) x y z pc L S w bc bs = some ps') (K : m_Sem X mi ps' Q) : m_Sem X mi (pc, L, S, w, bc, bs) Q := by
  intro p l e s m args below meth c N0 aI D Qf hC hF H locs ls k n hl hlen hP hS hk hb1 hb2
  have hok := (m_fetch_ok hf).2
  obtain ⟨hx, hb, hml, hown, hts, hin, hK, h0, hX⟩ := id hC
  unfold m_okb at hok
  simp only [Bool.and_eq_true] at hok
  obtain ⟨hok1, hok2⟩ := hok
  dsimp only at hok1 hok2 hl hlen hP hS hk hb1 hb2
  have hdec := of_decide_eq_true hok1
  dsimp only [m_len] at hdec
  simp only [m_exec] at he
  split at he
  · cases he
    refine lv_fconst0 hx hb hdec ?_
    exact K p l e s m args below meth c N0 aI D Qf hC hF H locs ls k n hl hlen hP hS hk hb1 hb2
  · cases he
    refine lv_fconst1 hx hb hdec ?_
    exact K p l e s m args below meth c N0 aI D Qf hC hF H locs ls k n hl hlen hP hS hk hb1 hb2
  · cases he
    refine lv_fconst2 hx hb hdec ?_
    exact K p l e s m args below meth c N0 aI D Qf hC hF H locs ls k n hl hlen hP hS hk hb1 hb2
set_option maxHeartbeats 4000000 in
set_option maxRecDepth 100000 in
theorem m_x_iadd {X : Nat × Nat × (Nat → Int32)} {mi pc x y : Nat}  {z : Int} {L : List (Option mPV)} {S : List mPV} {w : mPW} {bc bs : Nat} {ps' : mPS} {Q : Option mPV → mPW → Prop} (hf : m_fetch mi pc = some (pc, .iadd, x, y, z)) (he : m_exec mi .iadd x y z pc L S w bc bs = some ps') (K : m_Sem X mi ps' Q) : m_Sem X mi (pc, L, S, w, bc, bs) Q := by
  intro p l e s m args below meth c N0 aI D Qf hC hF H locs ls k n hl hlen hP hS hk hb1 hb2
  have hok := (m_fetch_ok hf).2
  obtain ⟨hx, hb, hml, hown, hts, hin, hK, h0, hX⟩ := id hC
  unfold m_okb at hok
  simp only [Bool.and_eq_true] at hok
  obtain ⟨hok1, hok2⟩ := hok
  dsimp only at hok1 hok2 hl hlen hP hS hk hb1 hb2
  have hdec := of_decide_eq_true hok1
  dsimp only [m_len] at hdec
  simp only [m_exec] at he
  unfold m_bin at he
  split at he
  next b a S' =>
    cases he
    refine lv_iadd hx hb hdec ?_
    have hv : (Int32.ofInt a + Int32.ofInt b) = Int32.ofInt (a + b) := (m_of_add a b).symm
    rw [hv]
    exact K p l e s m args below meth c N0 aI D Qf hC hF H locs ls k n hl hlen hP hS hk hb1 hb2
  next => cases he
set_option maxHeartbeats 4000000 in
set_option maxRecDepth 100000 in
theorem m_x_isub {X : Nat × Nat × (Nat → Int32)} {mi pc x y : Nat}  {z : Int} {L : List (Option mPV)} {S : List mPV} {w : mPW} {bc bs : Nat} {ps' : mPS} {Q : Option mPV → mPW → Prop} (hf : m_fetch mi pc = some (pc, .isub, x, y, z)) (he : m_exec mi .isub x y z pc L S w bc bs = some ps') (K : m_Sem X mi ps' Q) : m_Sem X mi (pc, L, S, w, bc, bs) Q := by
  intro p l e s m args below meth c N0 aI D Qf hC hF H locs ls k n hl hlen hP hS hk hb1 hb2
  have hok := (m_fetch_ok hf).2
  obtain ⟨hx, hb, hml, hown, hts, hin, hK, h0, hX⟩ := id hC
  unfold m_okb at hok
  simp only [Bool.and_eq_true] at hok
  obtain ⟨hok1, hok2⟩ := hok
  dsimp only at hok1 hok2 hl hlen hP hS hk hb1 hb2
  have hdec := of_decide_eq_true hok1
  dsimp only [m_len] at hdec
  simp only [m_exec] at he
  unfold m_bin at he
  split at he
  next b a S' =>
    cases he
    refine lv_isub hx hb hdec ?_
    have hv : (Int32.ofInt a - Int32.ofInt b) = Int32.ofInt (a - b) := (m_of_sub a b).symm
    rw [hv]
    exact K p l e s m args below meth c N0 aI D Qf hC hF H locs ls k n hl hlen hP hS hk hb1 hb2
  next => cases he
set_option maxHeartbeats 4000000 in
set_option maxRecDepth 100000 in
theorem m_x_imul {X : Nat × Nat × (Nat → Int32)} {mi pc x y : Nat}  {z : Int} {L : List (Option mPV)} {S : List mPV} {w : mPW} {bc bs : Nat} {ps' : mPS} {Q : Option mPV → mPW → Prop} (hf : m_fetch mi pc = some (pc, .imul, x, y, z)) (he : m_exec mi .imul x y z pc L S w bc bs = some ps') (K : m_Sem X mi ps' Q) : m_Sem X mi (pc, L, S, w, bc, bs) Q := by
  intro p l e s m args below meth c N0 aI D Qf hC hF H locs ls k n hl hlen hP hS hk hb1 hb2
  have hok := (m_fetch_ok hf).2
  obtain ⟨hx, hb, hml, hown, hts, hin, hK, h0, hX⟩ := id hC
  unfold m_okb at hok
  simp only [Bool.and_eq_true] at hok
  obtain ⟨hok1, hok2⟩ := hok
  dsimp only at hok1 hok2 hl hlen hP hS hk hb1 hb2
  have hdec := of_decide_eq_true hok1
  dsimp only [m_len] at hdec
  simp only [m_exec] at he
  unfold m_bin at he
  split at he
  next b a S' =>
    cases he
    refine lv_imul hx hb hdec ?_
    have hv : (Int32.ofInt a * Int32.ofInt b) = Int32.ofInt (a * b) := (m_of_mul a b).symm
    rw [hv]
    exact K p l e s m args below meth c N0 aI D Qf hC hF H locs ls k n hl hlen hP hS hk hb1 hb2
  next => cases he
set_option maxHeartbeats 4000000 in
set_option maxRecDepth 100000 in
theorem m_x_iand {X : Nat × Nat × (Nat → Int32)} {mi pc x y : Nat}  {z : Int} {L : List (Option mPV)} {S : List mPV} {w : mPW} {bc bs : Nat} {ps' : mPS} {Q : Option mPV → mPW → Prop} (hf : m_fetch mi pc = some (pc, .iand, x, y, z)) (he : m_exec mi .iand x y z pc L S w bc bs = some ps') (K : m_Sem X mi ps' Q) : m_Sem X mi (pc, L, S, w, bc, bs) Q := by
  intro p l e s m args below meth c N0 aI D Qf hC hF H locs ls k n hl hlen hP hS hk hb1 hb2
  have hok := (m_fetch_ok hf).2
  obtain ⟨hx, hb, hml, hown, hts, hin, hK, h0, hX⟩ := id hC
  unfold m_okb at hok
  simp only [Bool.and_eq_true] at hok
  obtain ⟨hok1, hok2⟩ := hok
  dsimp only at hok1 hok2 hl hlen hP hS hk hb1 hb2
  have hdec := of_decide_eq_true hok1
  dsimp only [m_len] at hdec
  simp only [m_exec] at he
  unfold m_bin at he
  split at he
  next b a S' =>
    cases he
    refine lv_iand hx hb hdec  ?_
    have hv : (Int32.ofInt a &&& Int32.ofInt b) = Int32.ofInt ((Int32.ofInt a &&& Int32.ofInt b)).toInt := (Int32.ofInt_toInt _).symm
    rw [hv]
    exact K p l e s m args below meth c N0 aI D Qf hC hF H locs ls k n hl hlen hP hS hk hb1 hb2
  next => cases he
set_option maxHeartbeats 4000000 in
set_option maxRecDepth 100000 in
theorem m_x_ior {X : Nat × Nat × (Nat → Int32)} {mi pc x y : Nat}  {z : Int} {L : List (Option mPV)} {S : List mPV} {w : mPW} {bc bs : Nat} {ps' : mPS} {Q : Option mPV → mPW → Prop} (hf : m_fetch mi pc = some (pc, .ior, x, y, z)) (he : m_exec mi .ior x y z pc L S w bc bs = some ps') (K : m_Sem X mi ps' Q) : m_Sem X mi (pc, L, S, w, bc, bs) Q := by
  intro p l e s m args below meth c N0 aI D Qf hC hF H locs ls k n hl hlen hP hS hk hb1 hb2
  have hok := (m_fetch_ok hf).2
  obtain ⟨hx, hb, hml, hown, hts, hin, hK, h0, hX⟩ := id hC
  unfold m_okb at hok
  simp only [Bool.and_eq_true] at hok
  obtain ⟨hok1, hok2⟩ := hok
  dsimp only at hok1 hok2 hl hlen hP hS hk hb1 hb2
  have hdec := of_decide_eq_true hok1
  dsimp only [m_len] at hdec
  simp only [m_exec] at he
  unfold m_bin at he
  split at he
  next b a S' =>
    cases he
    refine lv_ior hx hb hdec  ?_
    have hv : (Int32.ofInt a ||| Int32.ofInt b) = Int32.ofInt ((Int32.ofInt a ||| Int32.ofInt b)).toInt := (Int32.ofInt_toInt _).symm
    rw [hv]
    exact K p l e s m args below meth c N0 aI D Qf hC hF H locs ls k n hl hlen hP hS hk hb1 hb2
  next => cases he
set_option maxHeartbeats 4000000 in
set_option maxRecDepth 100000 in
theorem m_x_ixor {X : Nat × Nat × (Nat → Int32)} {mi pc x y : Nat}  {z : Int} {L : List (Option mPV)} {S : List mPV} {w : mPW} {bc bs : Nat} {ps' : mPS} {Q : Option mPV → mPW → Prop} (hf : m_fetch mi pc = some (pc, .ixor, x, y, z)) (he : m_exec mi .ixor x y z pc L S w bc bs = some ps') (K : m_Sem X mi ps' Q) : m_Sem X mi (pc, L, S, w, bc, bs) Q := by
  intro p l e s m args below meth c N0 aI D Qf hC hF H locs ls k n hl hlen hP hS hk hb1 hb2
  have hok := (m_fetch_ok hf).2
  obtain ⟨hx, hb, hml, hown, hts, hin, hK, h0, hX⟩ := id hC
  unfold m_okb at hok
  simp only [Bool.and_eq_true] at hok
  obtain ⟨hok1, hok2⟩ := hok
  dsimp only at hok1 hok2 hl hlen hP hS hk hb1 hb2
  have hdec := of_decide_eq_true hok1
  dsimp only [m_len] at hdec
  simp only [m_exec] at he
  unfold m_bin at he
  split at he
  next b a S' =>
    cases he
    refine lv_ixor hx hb hdec  ?_
    have hv : (Int32.ofInt a ^^^ Int32.ofInt b) = Int32.ofInt ((Int32.ofInt a ^^^ Int32.ofInt b)).toInt := (Int32.ofInt_toInt _).symm
    rw [hv]
    exact K p l e s m args below meth c N0 aI D Qf hC hF H locs ls k n hl hlen hP hS hk hb1 hb2
  next => cases he
set_option maxHeartbeats 4000000 in
set_option maxRecDepth 100000 in
theorem m_x_ishl {X : Nat × Nat × (Nat → Int32)} {mi pc x y : Nat}  {z : Int} {L : List (Option mPV)} {S : List mPV} {w : mPW} {bc bs : Nat} {ps' : mPS} {Q : Option mPV → mPW → Prop} (hf : m_fetch mi pc = some (pc, .ishl, x, y, z)) (he : m_exec mi .ishl x y z pc L S w bc bs = some ps') (K : m_Sem X mi ps' Q) : m_Sem X mi (pc, L, S, w, bc, bs) Q := by
  intro p l e s m args below meth c N0 aI D Qf hC hF H locs ls k n hl hlen hP hS hk hb1 hb2
  have hok := (m_fetch_ok hf).2
  obtain ⟨hx, hb, hml, hown, hts, hin, hK, h0, hX⟩ := id hC
  unfold m_okb at hok
  simp only [Bool.and_eq_true] at hok
  obtain ⟨hok1, hok2⟩ := hok
  dsimp only at hok1 hok2 hl hlen hP hS hk hb1 hb2
  have hdec := of_decide_eq_true hok1
  dsimp only [m_len] at hdec
  simp only [m_exec] at he
  unfold m_bin at he
  split at he
  next b a S' =>
    cases he
    refine lv_ishl hx hb hdec  ?_
    have hv : (Int32.ofInt a <<< (Int32.ofInt b &&& 31)) = Int32.ofInt ((Int32.ofInt a <<< (Int32.ofInt b &&& 31))).toInt := (Int32.ofInt_toInt _).symm
    rw [hv]
    exact K p l e s m args below meth c N0 aI D Qf hC hF H locs ls k n hl hlen hP hS hk hb1 hb2
  next => cases he
set_option maxHeartbeats 4000000 in
set_option maxRecDepth 100000 in
theorem m_x_ishr {X : Nat × Nat × (Nat → Int32)} {mi pc x y : Nat}  {z : Int} {L : List (Option mPV)} {S : List mPV} {w : mPW} {bc bs : Nat} {ps' : mPS} {Q : Option mPV → mPW → Prop} (hf : m_fetch mi pc = some (pc, .ishr, x, y, z)) (he : m_exec mi .ishr x y z pc L S w bc bs = some ps') (K : m_Sem X mi ps' Q) : m_Sem X mi (pc, L, S, w, bc, bs) Q := by
  intro p l e s m args below meth c N0 aI D Qf hC hF H locs ls k n hl hlen hP hS hk hb1 hb2
  have hok := (m_fetch_ok hf).2
  obtain ⟨hx, hb, hml, hown, hts, hin, hK, h0, hX⟩ := id hC
  unfold m_okb at hok
  simp only [Bool.and_eq_true] at hok
  obtain ⟨hok1, hok2⟩ := hok
  dsimp only at hok1 hok2 hl hlen hP hS hk hb1 hb2
  have hdec := of_decide_eq_true hok1
  dsimp only [m_len] at hdec
  simp only [m_exec] at he
  unfold m_bin at he
  split at he
  next b a S' =>
    cases he
    refine lv_ishr hx hb hdec  ?_
    have hv : (Int32.ofInt a >>> (Int32.ofInt b &&& 31)) = Int32.ofInt ((Int32.ofInt a >>> (Int32.ofInt b &&& 31))).toInt := (Int32.ofInt_toInt _).symm
    rw [hv]
    exact K p l e s m args below meth c N0 aI D Qf hC hF H locs ls k n hl hlen hP hS hk hb1 hb2
  next => cases he
set_option maxHeartbeats 4000000 in
set_option maxRecDepth 100000 in
theorem m_x_iushr {X : Nat × Nat × (Nat → Int32)} {mi pc x y : Nat}  {z : Int} {L : List (Option mPV)} {S : List mPV} {w : mPW} {bc bs : Nat} {ps' : mPS} {Q : Option mPV → mPW → Prop} (hf : m_fetch mi pc = some (pc, .iushr, x, y, z)) (he : m_exec mi .iushr x y z pc L S w bc bs = some ps') (K : m_Sem X mi ps' Q) : m_Sem X mi (pc, L, S, w, bc, bs) Q := by
  intro p l e s m args below meth c N0 aI D Qf hC hF H locs ls k n hl hlen hP hS hk hb1 hb2
  have hok := (m_fetch_ok hf).2
  obtain ⟨hx, hb, hml, hown, hts, hin, hK, h0, hX⟩ := id hC
  unfold m_okb at hok
  simp only [Bool.and_eq_true] at hok
  obtain ⟨hok1, hok2⟩ := hok
  dsimp only at hok1 hok2 hl hlen hP hS hk hb1 hb2
  have hdec := of_decide_eq_true hok1
  dsimp only [m_len] at hdec
  simp only [m_exec] at he
  unfold m_bin at he
  split at he
  next b a S' =>
    cases he
    refine lv_iushr hx hb hdec rfl ?_
    have hv : ((Int32.ofInt a).toUInt32 >>> ((Int32.ofInt b).toUInt32 &&& Int32.toUInt32 31)).toInt32 = Int32.ofInt (((Int32.ofInt a).toUInt32 >>> ((Int32.ofInt b).toUInt32 &&& Int32.toUInt32 31)).toInt32).toInt := (Int32.ofInt_toInt _).symm
    rw [hv]
    exact K p l e s m args below meth c N0 aI D Qf hC hF H locs ls k n hl hlen hP hS hk hb1 hb2
  next => cases he
set_option maxHeartbeats 4000000 in
set_option maxRecDepth 100000 in
theorem m_x_land {X : Nat × Nat × (Nat → Int32)} {mi pc x y : Nat}  {z : Int} {L : List (Option mPV)} {S : List mPV} {w : mPW} {bc bs : Nat} {ps' : mPS} {Q : Option mPV → mPW → Prop} (hf : m_fetch mi pc = some (pc, .land, x, y, z)) (he : m_exec mi .land x y z pc L S w bc bs = some ps') (K : m_Sem X mi ps' Q) : m_Sem X mi (pc, L, S, w, bc, bs) Q := by
  intro p l e s m args below meth c N0 aI D Qf hC hF H locs ls k n hl hlen hP hS hk hb1 hb2
  have hok := (m_fetch_ok hf).2
  obtain ⟨hx, hb, hml, hown, hts, hin, hK, h0, hX⟩ := id hC
  unfold m_okb at hok
  simp only [Bool.and_eq_true] at hok
  obtain ⟨hok1, hok2⟩ := hok
  dsimp only at hok1 hok2 hl hlen hP hS hk hb1 hb2
  have hdec := of_decide_eq_true hok1
  dsimp only [m_len] at hdec
  simp only [m_exec] at he
  unfold m_binL at he
  split at he
  next b a S' =>
    cases he
    refine lv_land hx hb hdec ?_
    exact K p l e s m args below meth c N0 aI D Qf hC hF H locs ls k n hl hlen hP hS hk hb1 hb2
  next => cases he
set_option maxHeartbeats 4000000 in
set_option maxRecDepth 100000 in
theorem m_x_lor {X : Nat × Nat × (Nat → Int32)} {mi pc x y : Nat}  {z : Int} {L : List (Option mPV)} {S : List mPV} {w : mPW} {bc bs : Nat} {ps' : mPS} {Q : Option mPV → mPW → Prop} (hf : m_fetch mi pc = some (pc, .lor, x, y, z)) (he : m_exec mi .lor x y z pc L S w bc bs = some ps') (K : m_Sem X mi ps' Q) : m_Sem X mi (pc, L, S, w, bc, bs) Q := by
  intro p l e s m args below meth c N0 aI D Qf hC hF H locs ls k n hl hlen hP hS hk hb1 hb2
  have hok := (m_fetch_ok hf).2
  obtain ⟨hx, hb, hml, hown, hts, hin, hK, h0, hX⟩ := id hC
  unfold m_okb at hok
  simp only [Bool.and_eq_true] at hok
  obtain ⟨hok1, hok2⟩ := hok
  dsimp only at hok1 hok2 hl hlen hP hS hk hb1 hb2
  have hdec := of_decide_eq_true hok1
  dsimp only [m_len] at hdec
  simp only [m_exec] at he
  unfold m_binL at he
  split at he
  next b a S' =>
    cases he
    refine lv_lor hx hb hdec ?_
    exact K p l e s m args below meth c N0 aI D Qf hC hF H locs ls k n hl hlen hP hS hk hb1 hb2
  next => cases he
set_option maxHeartbeats 4000000 in
set_option maxRecDepth 100000 in
theorem m_x_lsub {X : Nat × Nat × (Nat → Int32)} {mi pc x y : Nat}  {z : Int} {L : List (Option mPV)} {S : List mPV} {w : mPW} {bc bs : Nat} {ps' : mPS} {Q : Option mPV → mPW → Prop} (hf : m_fetch mi pc = some (pc, .lsub, x, y, z)) (he : m_exec mi .lsub x y z pc L S w bc bs = some ps') (K : m_Sem X mi ps' Q) : m_Sem X mi (pc, L, S, w, bc, bs) Q := by
  intro p l e s m args below meth c N0 aI D Qf hC hF H locs ls k n hl hlen hP hS hk hb1 hb2
  have hok := (m_fetch_ok hf).2
  obtain ⟨hx, hb, hml, hown, hts, hin, hK, h0, hX⟩ := id hC
  unfold m_okb at hok
  simp only [Bool.and_eq_true] at hok
  obtain ⟨hok1, hok2⟩ := hok
  dsimp only at hok1 hok2 hl hlen hP hS hk hb1 hb2
  have hdec := of_decide_eq_true hok1
  dsimp only [m_len] at hdec
  simp only [m_exec] at he
  unfold m_binL at he
  split at he
  next b a S' =>
    cases he
    refine lv_lsub hx hb hdec ?_
    exact K p l e s m args below meth c N0 aI D Qf hC hF H locs ls k n hl hlen hP hS hk hb1 hb2
  next => cases he
set_option maxHeartbeats 4000000 in
set_option maxRecDepth 100000 in
theorem m_x_lxor {X : Nat × Nat × (Nat → Int32)} {mi pc x y : Nat}  {z : Int} {L : List (Option mPV)} {S : List mPV} {w : mPW} {bc bs : Nat} {ps' : mPS} {Q : Option mPV → mPW → Prop} (hf : m_fetch mi pc = some (pc, .lxor, x, y, z)) (he : m_exec mi .lxor x y z pc L S w bc bs = some ps') (K : m_Sem X mi ps' Q) : m_Sem X mi (pc, L, S, w, bc, bs) Q := by
  intro p l e s m args below meth c N0 aI D Qf hC hF H locs ls k n hl hlen hP hS hk hb1 hb2
  have hok := (m_fetch_ok hf).2
  obtain ⟨hx, hb, hml, hown, hts, hin, hK, h0, hX⟩ := id hC
  unfold m_okb at hok
  simp only [Bool.and_eq_true] at hok
  obtain ⟨hok1, hok2⟩ := hok
  dsimp only at hok1 hok2 hl hlen hP hS hk hb1 hb2
  have hdec := of_decide_eq_true hok1
  dsimp only [m_len] at hdec
  simp only [m_exec] at he
  unfold m_binL at he
  split at he
  next b a S' =>
    cases he
    refine lv_lxor hx hb hdec ?_
    exact K p l e s m args below meth c N0 aI D Qf hC hF H locs ls k n hl hlen hP hS hk hb1 hb2
  next => cases he
set_option maxHeartbeats 4000000 in
set_option maxRecDepth 100000 in
theorem m_x_lshl {X : Nat × Nat × (Nat → Int32)} {mi pc x y : Nat}  {z : Int} {L : List (Option mPV)} {S : List mPV} {w : mPW} {bc bs : Nat} {ps' : mPS} {Q : Option mPV → mPW → Prop} (hf : m_fetch mi pc = some (pc, .lshl, x, y, z)) (he : m_exec mi .lshl x y z pc L S w bc bs = some ps') (K : m_Sem X mi ps' Q) : m_Sem X mi (pc, L, S, w, bc, bs) Q := by
  intro p l e s m args below meth c N0 aI D Qf hC hF H locs ls k n hl hlen hP hS hk hb1 hb2
  have hok := (m_fetch_ok hf).2
  obtain ⟨hx, hb, hml, hown, hts, hin, hK, h0, hX⟩ := id hC
  unfold m_okb at hok
  simp only [Bool.and_eq_true] at hok
  obtain ⟨hok1, hok2⟩ := hok
  dsimp only at hok1 hok2 hl hlen hP hS hk hb1 hb2
  have hdec := of_decide_eq_true hok1
  dsimp only [m_len] at hdec
  simp only [m_exec] at he
  split at he
  next =>
    rename_i b a S'
    cases he
    refine lv_lshl hx hb hdec rfl ?_
    exact K p l e s m args below meth c N0 aI D Qf hC hF H locs ls k n hl hlen hP hS hk hb1 hb2
  next => cases he
set_option maxHeartbeats 4000000 in
set_option maxRecDepth 100000 in
theorem m_x_lshr {X : Nat × Nat × (Nat → Int32)} {mi pc x y : Nat}  {z : Int} {L : List (Option mPV)} {S : List mPV} {w : mPW} {bc bs : Nat} {ps' : mPS} {Q : Option mPV → mPW → Prop} (hf : m_fetch mi pc = some (pc, .lshr, x, y, z)) (he : m_exec mi .lshr x y z pc L S w bc bs = some ps') (K : m_Sem X mi ps' Q) : m_Sem X mi (pc, L, S, w, bc, bs) Q := by
  intro p l e s m args below meth c N0 aI D Qf hC hF H locs ls k n hl hlen hP hS hk hb1 hb2
  have hok := (m_fetch_ok hf).2
  obtain ⟨hx, hb, hml, hown, hts, hin, hK, h0, hX⟩ := id hC
  unfold m_okb at hok
  simp only [Bool.and_eq_true] at hok
  obtain ⟨hok1, hok2⟩ := hok
  dsimp only at hok1 hok2 hl hlen hP hS hk hb1 hb2
  have hdec := of_decide_eq_true hok1
  dsimp only [m_len] at hdec
  simp only [m_exec] at he
  split at he
  next =>
    rename_i b a S'
    cases he
    refine lv_lshr hx hb hdec rfl ?_
    exact K p l e s m args below meth c N0 aI D Qf hC hF H locs ls k n hl hlen hP hS hk hb1 hb2
  next => cases he
set_option maxHeartbeats 4000000 in
set_option maxRecDepth 100000 in
theorem m_x_lcmp {X : Nat × Nat × (Nat → Int32)} {mi pc x y : Nat}  {z : Int} {L : List (Option mPV)} {S : List mPV} {w : mPW} {bc bs : Nat} {ps' : mPS} {Q : Option mPV → mPW → Prop} (hf : m_fetch mi pc = some (pc, .lcmp, x, y, z)) (he : m_exec mi .lcmp x y z pc L S w bc bs = some ps') (K : m_Sem X mi ps' Q) : m_Sem X mi (pc, L, S, w, bc, bs) Q := by
  intro p l e s m args below meth c N0 aI D Qf hC hF H locs ls k n hl hlen hP hS hk hb1 hb2
  have hok := (m_fetch_ok hf).2
  obtain ⟨hx, hb, hml, hown, hts, hin, hK, h0, hX⟩ := id hC
  unfold m_okb at hok
  simp only [Bool.and_eq_true] at hok
  obtain ⟨hok1, hok2⟩ := hok
  dsimp only at hok1 hok2 hl hlen hP hS hk hb1 hb2
  have hdec := of_decide_eq_true hok1
  dsimp only [m_len] at hdec
  simp only [m_exec] at he
  split at he
  next =>
    rename_i b a S'
    cases he
    refine W.lcmp hx hb hdec  ?_
    have hv : (lg_cmp a b) = Int32.ofInt ((lg_cmp a b)).toInt := (Int32.ofInt_toInt _).symm
    rw [hv]
    exact K p l e s m args below meth c N0 aI D Qf hC hF H locs ls k n hl hlen hP hS hk hb1 hb2
  next => cases he
set_option maxHeartbeats 4000000 in
set_option maxRecDepth 100000 in
theorem m_x_l2i {X : Nat × Nat × (Nat → Int32)} {mi pc x y : Nat}  {z : Int} {L : List (Option mPV)} {S : List mPV} {w : mPW} {bc bs : Nat} {ps' : mPS} {Q : Option mPV → mPW → Prop} (hf : m_fetch mi pc = some (pc, .l2i, x, y, z)) (he : m_exec mi .l2i x y z pc L S w bc bs = some ps') (K : m_Sem X mi ps' Q) : m_Sem X mi (pc, L, S, w, bc, bs) Q := by
  intro p l e s m args below meth c N0 aI D Qf hC hF H locs ls k n hl hlen hP hS hk hb1 hb2
  have hok := (m_fetch_ok hf).2
  obtain ⟨hx, hb, hml, hown, hts, hin, hK, h0, hX⟩ := id hC
  unfold m_okb at hok
  simp only [Bool.and_eq_true] at hok
  obtain ⟨hok1, hok2⟩ := hok
  dsimp only at hok1 hok2 hl hlen hP hS hk hb1 hb2
  have hdec := of_decide_eq_true hok1
  dsimp only [m_len] at hdec
  simp only [m_exec] at he
  split at he
  next =>
    rename_i a S'
    cases he
    refine lv_l2i hx hb hdec rfl ?_
    have hv : a.toInt32 = Int32.ofInt (a.toInt32).toInt := (Int32.ofInt_toInt _).symm
    rw [hv]
    exact K p l e s m args below meth c N0 aI D Qf hC hF H locs ls k n hl hlen hP hS hk hb1 hb2
  next => cases he
set_option maxHeartbeats 4000000 in
set_option maxRecDepth 100000 in
theorem m_x_i2l {X : Nat × Nat × (Nat → Int32)} {mi pc x y : Nat}  {z : Int} {L : List (Option mPV)} {S : List mPV} {w : mPW} {bc bs : Nat} {ps' : mPS} {Q : Option mPV → mPW → Prop} (hf : m_fetch mi pc = some (pc, .i2l, x, y, z)) (he : m_exec mi .i2l x y z pc L S w bc bs = some ps') (K : m_Sem X mi ps' Q) : m_Sem X mi (pc, L, S, w, bc, bs) Q := by
  intro p l e s m args below meth c N0 aI D Qf hC hF H locs ls k n hl hlen hP hS hk hb1 hb2
  have hok := (m_fetch_ok hf).2
  obtain ⟨hx, hb, hml, hown, hts, hin, hK, h0, hX⟩ := id hC
  unfold m_okb at hok
  simp only [Bool.and_eq_true] at hok
  obtain ⟨hok1, hok2⟩ := hok
  dsimp only at hok1 hok2 hl hlen hP hS hk hb1 hb2
  have hdec := of_decide_eq_true hok1
  dsimp only [m_len] at hdec
  simp only [m_exec] at he
  split at he
  next =>
    rename_i a S'
    cases he
    refine lv_i2l hx hb hdec rfl ?_
    exact K p l e s m args below meth c N0 aI D Qf hC hF H locs ls k n hl hlen hP hS hk hb1 hb2
  next => cases he
set_option maxHeartbeats 4000000 in
set_option maxRecDepth 100000 in
theorem m_x_i2f {X : Nat × Nat × (Nat → Int32)} {mi pc x y : Nat}  {z : Int} {L : List (Option mPV)} {S : List mPV} {w : mPW} {bc bs : Nat} {ps' : mPS} {Q : Option mPV → mPW → Prop} (hf : m_fetch mi pc = some (pc, .i2f, x, y, z)) (he : m_exec mi .i2f x y z pc L S w bc bs = some ps') (K : m_Sem X mi ps' Q) : m_Sem X mi (pc, L, S, w, bc, bs) Q := by
  intro p l e s m args below meth c N0 aI D Qf hC hF H locs ls k n hl hlen hP hS hk hb1 hb2
  have hok := (m_fetch_ok hf).2
  obtain ⟨hx, hb, hml, hown, hts, hin, hK, h0, hX⟩ := id hC
  unfold m_okb at hok
  simp only [Bool.and_eq_true] at hok
  obtain ⟨hok1, hok2⟩ := hok
  dsimp only at hok1 hok2 hl hlen hP hS hk hb1 hb2
  have hdec := of_decide_eq_true hok1
  dsimp only [m_len] at hdec
  simp only [m_exec] at he
  split at he
  next =>
    rename_i a S'
    cases he
    refine lv_i2f hx hb hdec  ?_
    exact K p l e s m args below meth c N0 aI D Qf hC hF H locs ls k n hl hlen hP hS hk hb1 hb2
  next => cases he
set_option maxHeartbeats 4000000 in
set_option maxRecDepth 100000 in
theorem m_x_f2i {X : Nat × Nat × (Nat → Int32)} {mi pc x y : Nat}  {z : Int} {L : List (Option mPV)} {S : List mPV} {w : mPW} {bc bs : Nat} {ps' : mPS} {Q : Option mPV → mPW → Prop} (hf : m_fetch mi pc = some (pc, .f2i, x, y, z)) (he : m_exec mi .f2i x y z pc L S w bc bs = some ps') (K : m_Sem X mi ps' Q) : m_Sem X mi (pc, L, S, w, bc, bs) Q := by
  intro p l e s m args below meth c N0 aI D Qf hC hF H locs ls k n hl hlen hP hS hk hb1 hb2
  have hok := (m_fetch_ok hf).2
  obtain ⟨hx, hb, hml, hown, hts, hin, hK, h0, hX⟩ := id hC
  unfold m_okb at hok
  simp only [Bool.and_eq_true] at hok
  obtain ⟨hok1, hok2⟩ := hok
  dsimp only at hok1 hok2 hl hlen hP hS hk hb1 hb2
  have hdec := of_decide_eq_true hok1
  dsimp only [m_len] at hdec
  simp only [m_exec] at he
  split at he
  next =>
    rename_i a S'
    cases he
    refine lv_f2i hx hb hdec  ?_
    have hv : (FP.f2i a) = Int32.ofInt ((FP.f2i a)).toInt := (Int32.ofInt_toInt _).symm
    rw [hv]
    exact K p l e s m args below meth c N0 aI D Qf hC hF H locs ls k n hl hlen hP hS hk hb1 hb2
  next => cases he
set_option maxHeartbeats 4000000 in
set_option maxRecDepth 100000 in
theorem m_x_fcmp {X : Nat × Nat × (Nat → Int32)} {mi pc x y : Nat} {o : CmpOp} {z : Int} {L : List (Option mPV)} {S : List mPV} {w : mPW} {bc bs : Nat} {ps' : mPS} {Q : Option mPV → mPW → Prop} (hf : m_fetch mi pc = some (pc, (.fcmp o), x, y, z)) (he : m_exec mi (.fcmp o) x y z pc L S w bc bs = some ps') (K : m_Sem X mi ps' Q) : m_Sem X mi (pc, L, S, w, bc, bs) Q := by
  intro p l e s m args below meth c N0 aI D Qf hC hF H locs ls k n hl hlen hP hS hk hb1 hb2
  have hok := (m_fetch_ok hf).2
  obtain ⟨hx, hb, hml, hown, hts, hin, hK, h0, hX⟩ := id hC
  unfold m_okb at hok
  simp only [Bool.and_eq_true] at hok
  obtain ⟨hok1, hok2⟩ := hok
  dsimp only at hok1 hok2 hl hlen hP hS hk hb1 hb2
  have hdec := of_decide_eq_true hok1
  dsimp only [m_len] at hdec
  simp only [m_exec] at he
  split at he
  next =>
    rename_i b a S'
    cases he
    refine lv_fcmp hx hb hdec  ?_
    have hv : (Op.cmpValue (FP.fcmp a b) o) = Int32.ofInt ((Op.cmpValue (FP.fcmp a b) o)).toInt := (Int32.ofInt_toInt _).symm
    rw [hv]
    exact K p l e s m args below meth c N0 aI D Qf hC hF H locs ls k n hl hlen hP hS hk hb1 hb2
  next => cases he
set_option maxHeartbeats 4000000 in
set_option maxRecDepth 100000 in
theorem m_x_pop {X : Nat × Nat × (Nat → Int32)} {mi pc x y : Nat}  {z : Int} {L : List (Option mPV)} {S : List mPV} {w : mPW} {bc bs : Nat} {ps' : mPS} {Q : Option mPV → mPW → Prop} (hf : m_fetch mi pc = some (pc, .pop, x, y, z)) (he : m_exec mi .pop x y z pc L S w bc bs = some ps') (K : m_Sem X mi ps' Q) : m_Sem X mi (pc, L, S, w, bc, bs) Q := by
  intro p l e s m args below meth c N0 aI D Qf hC hF H locs ls k n hl hlen hP hS hk hb1 hb2
  have hok := (m_fetch_ok hf).2
  obtain ⟨hx, hb, hml, hown, hts, hin, hK, h0, hX⟩ := id hC
  unfold m_okb at hok
  simp only [Bool.and_eq_true] at hok
  obtain ⟨hok1, hok2⟩ := hok
  dsimp only at hok1 hok2 hl hlen hP hS hk hb1 hb2
  have hdec := of_decide_eq_true hok1
  dsimp only [m_len] at hdec
  simp only [m_exec] at he
  split at he
  next =>
    rename_i v S'
    cases hv : Nat.beq (m_cat v) 1 with
    | false => rw [hv] at he; cases he
    | true =>
      rw [hv] at he
      cases he
      refine lv_pop hx hb hdec (by rw [m_cat_cv]; exact Nat.eq_of_beq_eq_true hv) ?_
      exact K p l e s m args below meth c N0 aI D Qf hC hF H locs ls k n hl hlen hP hS hk hb1 hb2
  next => cases he
set_option maxHeartbeats 4000000 in
set_option maxRecDepth 100000 in
theorem m_x_dup {X : Nat × Nat × (Nat → Int32)} {mi pc x y : Nat}  {z : Int} {L : List (Option mPV)} {S : List mPV} {w : mPW} {bc bs : Nat} {ps' : mPS} {Q : Option mPV → mPW → Prop} (hf : m_fetch mi pc = some (pc, .dup, x, y, z)) (he : m_exec mi .dup x y z pc L S w bc bs = some ps') (K : m_Sem X mi ps' Q) : m_Sem X mi (pc, L, S, w, bc, bs) Q := by
  intro p l e s m args below meth c N0 aI D Qf hC hF H locs ls k n hl hlen hP hS hk hb1 hb2
  have hok := (m_fetch_ok hf).2
  obtain ⟨hx, hb, hml, hown, hts, hin, hK, h0, hX⟩ := id hC
  unfold m_okb at hok
  simp only [Bool.and_eq_true] at hok
  obtain ⟨hok1, hok2⟩ := hok
  dsimp only at hok1 hok2 hl hlen hP hS hk hb1 hb2
  have hdec := of_decide_eq_true hok1
  dsimp only [m_len] at hdec
  simp only [m_exec] at he
  split at he
  next =>
    rename_i v S'
    cases hv : Nat.beq (m_cat v) 1 with
    | false => rw [hv] at he; cases he
    | true =>
      rw [hv] at he
      cases he
      refine lv_dup hx hb hdec (by rw [m_cat_cv]; exact Nat.eq_of_beq_eq_true hv) ?_
      exact K p l e s m args below meth c N0 aI D Qf hC hF H locs ls k n hl hlen hP hS hk hb1 hb2
  next => cases he
set_option maxHeartbeats 4000000 in
set_option maxRecDepth 100000 in
theorem m_x_dup2 {X : Nat × Nat × (Nat → Int32)} {mi pc x y : Nat}  {z : Int} {L : List (Option mPV)} {S : List mPV} {w : mPW} {bc bs : Nat} {ps' : mPS} {Q : Option mPV → mPW → Prop} (hf : m_fetch mi pc = some (pc, .dup2, x, y, z)) (he : m_exec mi .dup2 x y z pc L S w bc bs = some ps') (K : m_Sem X mi ps' Q) : m_Sem X mi (pc, L, S, w, bc, bs) Q := by
  intro p l e s m args below meth c N0 aI D Qf hC hF H locs ls k n hl hlen hP hS hk hb1 hb2
  have hok := (m_fetch_ok hf).2
  obtain ⟨hx, hb, hml, hown, hts, hin, hK, h0, hX⟩ := id hC
  unfold m_okb at hok
  simp only [Bool.and_eq_true] at hok
  obtain ⟨hok1, hok2⟩ := hok
  dsimp only at hok1 hok2 hl hlen hP hS hk hb1 hb2
  have hdec := of_decide_eq_true hok1
  dsimp only [m_len] at hdec
  simp only [m_exec] at he
  split at he
  next =>
    rename_i u v S'
    cases hu : Nat.beq (m_cat u) 1 with
    | false => rw [hu] at he; cases he
    | true =>
      cases hv : Nat.beq (m_cat v) 1 with
      | false => rw [hu, hv] at he; cases he
      | true =>
        rw [hu, hv] at he
        cases he
        refine lv_dup2_11 hx hb hdec (by rw [m_cat_cv]; exact Nat.eq_of_beq_eq_true hu) (by rw [m_cat_cv]; exact Nat.eq_of_beq_eq_true hv) ?_
        exact K p l e s m args below meth c N0 aI D Qf hC hF H locs ls k n hl hlen hP hS hk hb1 hb2
  next => cases he
set_option maxHeartbeats 4000000 in
set_option maxRecDepth 100000 in
theorem m_x_goto {X : Nat × Nat × (Nat → Int32)} {mi pc x y : Nat} {o : Int} {z : Int} {L : List (Option mPV)} {S : List mPV} {w : mPW} {bc bs : Nat} {ps' : mPS} {Q : Option mPV → mPW → Prop} (hf : m_fetch mi pc = some (pc, (.goto o), x, y, z)) (he : m_exec mi (.goto o) x y z pc L S w bc bs = some ps') (K : m_Sem X mi ps' Q) : m_Sem X mi (pc, L, S, w, bc, bs) Q := by
  intro p l e s m args below meth c N0 aI D Qf hC hF H locs ls k n hl hlen hP hS hk hb1 hb2
  have hok := (m_fetch_ok hf).2
  obtain ⟨hx, hb, hml, hown, hts, hin, hK, h0, hX⟩ := id hC
  unfold m_okb at hok
  simp only [Bool.and_eq_true] at hok
  obtain ⟨hok1, hok2⟩ := hok
  dsimp only at hok1 hok2 hl hlen hP hS hk hb1 hb2
  have hdec := of_decide_eq_true hok1
  dsimp only [m_len] at hdec
  cases he
  refine lv_goto hx hb hdec (of_decide_eq_true hok2) ?_
  exact K p l e s m args below meth c N0 aI D Qf hC hF H locs ls k n hl hlen hP hS hk hb1 hb2
set_option maxHeartbeats 4000000 in
set_option maxRecDepth 100000 in
theorem m_x_iinc {X : Nat × Nat × (Nat → Int32)} {mi pc x y : Nat} {i : Nat} {d : Int} {z : Int} {L : List (Option mPV)} {S : List mPV} {w : mPW} {bc bs : Nat} {ps' : mPS} {Q : Option mPV → mPW → Prop} (hf : m_fetch mi pc = some (pc, (.iinc i d), x, y, z)) (he : m_exec mi (.iinc i d) x y z pc L S w bc bs = some ps') (K : m_Sem X mi ps' Q) : m_Sem X mi (pc, L, S, w, bc, bs) Q := by
  intro p l e s m args below meth c N0 aI D Qf hC hF H locs ls k n hl hlen hP hS hk hb1 hb2
  have hok := (m_fetch_ok hf).2
  obtain ⟨hx, hb, hml, hown, hts, hin, hK, h0, hX⟩ := id hC
  unfold m_okb at hok
  simp only [Bool.and_eq_true] at hok
  obtain ⟨hok1, hok2⟩ := hok
  dsimp only at hok1 hok2 hl hlen hP hS hk hb1 hb2
  have hdec := of_decide_eq_true hok1
  dsimp only [m_len] at hdec
  simp only [m_exec] at he
  split at he
  next v hv =>
    cases hi : Nat.blt i L.length with
    | false => rw [hi] at he; cases he
    | true =>
      rw [hi] at he
      cases he
      have hi := Nat.le_of_ble_eq_true hi
      have hm := m_as_get (N0 := N0) L 0 i _ hv
      rw [Nat.zero_add] at hm
      obtain ⟨j, hj⟩ := List.mem_iff_getElem?.mp hm
      refine lv_iinc hx hb hdec hl hj (m_of_add v d).symm (by rw [← hlen]; exact hi) rfl (fun ls2 hl2 => ?_)
      exact K p l e s m args below meth c N0 aI D Qf hC hF H locs ls2 k n (m_has_st rfl hl2) (by rw [m_st_len]; exact hlen) hP hS hk hb1 hb2
  next => cases he
set_option maxHeartbeats 4000000 in
set_option maxRecDepth 100000 in
theorem m_x_arraylength {X : Nat × Nat × (Nat → Int32)} {mi pc x y : Nat}  {z : Int} {L : List (Option mPV)} {S : List mPV} {w : mPW} {bc bs : Nat} {ps' : mPS} {Q : Option mPV → mPW → Prop} (hf : m_fetch mi pc = some (pc, .arraylength, x, y, z)) (he : m_exec mi .arraylength x y z pc L S w bc bs = some ps') (K : m_Sem X mi ps' Q) : m_Sem X mi (pc, L, S, w, bc, bs) Q := by
  intro p l e s m args below meth c N0 aI D Qf hC hF H locs ls k n hl hlen hP hS hk hb1 hb2
  have hok := (m_fetch_ok hf).2
  obtain ⟨hx, hb, hml, hown, hts, hin, hK, h0, hX⟩ := id hC
  unfold m_okb at hok
  simp only [Bool.and_eq_true] at hok
  obtain ⟨hok1, hok2⟩ := hok
  dsimp only at hok1 hok2 hl hlen hP hS hk hb1 hb2
  have hdec := of_decide_eq_true hok1
  dsimp only [m_len] at hdec
  simp only [m_exec] at he
  split at he
  next =>
    split at he
    next t v f hw =>
      cases ht : Nat.blt t 3 with
      | false => rw [ht] at he; cases he
      | true =>
        rw [ht] at he
        cases he
        have ht := Nat.le_of_ble_eq_true ht
        have hty : ∃ ty, (m_tys aI)[t]? = some (aI t, ty) := by
          rcases (show t = 0 ∨ t = 1 ∨ t = 2 by omega) with rfl | rfl | rfl
          · exact ⟨_, rfl⟩
          · exact ⟨_, rfl⟩
          · exact ⟨_, rfl⟩
        obtain ⟨ty, hty⟩ := hty
        have hv : Int32.ofInt (v : Int) = Int32.ofNat v := Int32.ofInt_eq_ofNat
        rcases f with f | f
        · refine va_alen hx hb hK hP _ t (m_cw_at hw) hty rfl hdec ?_
          show W p l e _ s m args below meth c H locs k n Qf (F0 m _ ls (.int (Int32.ofNat v) :: _))
          rw [← hv]
          exact K p l e s m args below meth c N0 aI D Qf hC hF H locs ls k n hl hlen hP hS hk hb1 hb2
        · refine va_alen hx hb hK hP _ t (m_cw_at hw) hty rfl hdec ?_
          show W p l e _ s m args below meth c H locs k n Qf (F0 m _ ls (.int (Int32.ofNat v) :: _))
          rw [← hv]
          exact K p l e s m args below meth c N0 aI D Qf hC hF H locs ls k n hl hlen hP hS hk hb1 hb2
    next => cases he
  next => cases he
set_option maxHeartbeats 4000000 in
set_option maxRecDepth 100000 in
theorem m_x_getfield {X : Nat × Nat × (Nat → Int32)} {mi pc x y : Nat} {i : Nat} {z : Int} {L : List (Option mPV)} {S : List mPV} {w : mPW} {bc bs : Nat} {ps' : mPS} {Q : Option mPV → mPW → Prop} (hf : m_fetch mi pc = some (pc, (.getfield i), x, y, z)) (he : m_exec mi (.getfield i) x y z pc L S w bc bs = some ps') (K : m_Sem X mi ps' Q) : m_Sem X mi (pc, L, S, w, bc, bs) Q := by
  intro p l e s m args below meth c N0 aI D Qf hC hF H locs ls k n hl hlen hP hS hk hb1 hb2
  have hok := (m_fetch_ok hf).2
  obtain ⟨hx, hb, hml, hown, hts, hin, hK, h0, hX⟩ := id hC
  unfold m_okb at hok
  simp only [Bool.and_eq_true] at hok
  obtain ⟨hok1, hok2⟩ := hok
  dsimp only at hok1 hok2 hl hlen hP hS hk hb1 hb2
  have hdec := of_decide_eq_true hok1
  dsimp only [m_len] at hdec
  obtain ⟨r, hr, hyN, hlink⟩ := m_flds_w _ (of_decide_eq_true hok2)
  simp only [m_exec] at he
  unfold m_getf at he
  split at he
  next q S' =>
    split at he
    next ci fs hw =>
      cases hci : Nat.beq ci x with
      | false => rw [hci] at he; cases he
      | true =>
        rw [hci] at he
        have hci := Nat.eq_of_beq_eq_true hci
        subst hci
        simp only [cond_true] at he
        split at he
        next v hv =>
          cases he
          refine va_get (C := r.1) (T := r.2.1) (N := r.2.2) hx hb hts (m_uw _ r hr) hown hK hP q (m_cw_at hw) hr y hyN (hts _ hlink) (fun _ h => h) (v := m_cv N0 v) (by rw [List.getElem?_map, hv]; rfl) hdec ?_
          exact K p l e s m args below meth c N0 aI D Qf hC hF H locs ls k n hl hlen hP hS hk hb1 hb2
        next => cases he
    next => cases he
  next => cases he
set_option maxHeartbeats 4000000 in
set_option maxRecDepth 100000 in
theorem m_x_putfield {X : Nat × Nat × (Nat → Int32)} {mi pc x y : Nat} {i : Nat} {z : Int} {L : List (Option mPV)} {S : List mPV} {w : mPW} {bc bs : Nat} {ps' : mPS} {Q : Option mPV → mPW → Prop} (hf : m_fetch mi pc = some (pc, (.putfield i), x, y, z)) (he : m_exec mi (.putfield i) x y z pc L S w bc bs = some ps') (K : m_Sem X mi ps' Q) : m_Sem X mi (pc, L, S, w, bc, bs) Q := by
  intro p l e s m args below meth c N0 aI D Qf hC hF H locs ls k n hl hlen hP hS hk hb1 hb2
  have hok := (m_fetch_ok hf).2
  obtain ⟨hx, hb, hml, hown, hts, hin, hK, h0, hX⟩ := id hC
  unfold m_okb at hok
  simp only [Bool.and_eq_true] at hok
  obtain ⟨hok1, hok2⟩ := hok
  dsimp only at hok1 hok2 hl hlen hP hS hk hb1 hb2
  have hdec := of_decide_eq_true hok1
  dsimp only [m_len] at hdec
  try simp only [Bool.and_eq_true] at hok2
  obtain ⟨hok2, hok3⟩ := hok2
  obtain ⟨r, hr, hyN, hlink⟩ := m_flds_w _ (of_decide_eq_true hok2)
  simp only [m_exec] at he
  have hr2 : vwCl[x]? = some r := hr
  rw [hr2] at hok3
  obtain ⟨ty0, hty, hnm, -⟩ := m_vt _ r hr
  by_cases hz : z = 0
  · rw [if_pos hz] at he
    simp only [hz, if_true] at hok3
    have hI : r.2.1 y = ((r.2.1 y).1, (r.2.1 y).2.1, "I", false) := of_decide_eq_true hok3
    unfold m_putI at he
    split at he
    next v q S' =>
      split at he
      next ci fs hw =>
        cases hci : Nat.beq ci x with
        | false => rw [hci] at he; cases he
        | true =>
          cases hyl : Nat.blt y fs.length with
          | false => rw [hci, hyl] at he; cases he
          | true =>
            rw [hci, hyl] at he
            have hci := Nat.eq_of_beq_eq_true hci
            subst hci
            have hyl := Nat.le_of_ble_eq_true hyl
            cases he
            refine va_put (C := r.1) (T := r.2.1) (N := r.2.2) (ty := .int) hx hb hts (m_uw _ r hr) ty0 hty hnm hown hK hP m_cw_D hS q (m_cw_at hw) hr y hyN (hts _ hlink) (fun _ h => h) (by rw [hI]) (by rw [hI]; show parseFieldDescriptor "I" = _; decide +kernel) rfl rfl (by rw [List.length_map]; exact hyl) hdec (fun H1 locs1 hP1 _ hS1 => ?_)
            have hP2 : va_P D vwCl (m_cw N0 aI 0 (w.set q (.inr (ci, fs.set y (.inl v))))) H1 := by
              rw [m_cw_set, Nat.zero_add]
              show va_P D vwCl ((m_cw N0 aI 0 w).set q (N0 + q, .inr (ci, (fs.set y (.inl v)).map (m_cv N0)))) H1
              rw [List.map_set]
              exact hP1
            exact K p l e s m args below meth c N0 aI D Qf hC hF H1 locs1 ls k n hl hlen hP2 hS1 (by rw [hk, List.length_set]) hb1 hb2
      next => cases he
    next => cases he
  · rw [if_neg hz] at he
    simp only [hz, if_false, Bool.and_eq_true] at hok3
    obtain ⟨⟨⟨g1, g2⟩, g3⟩, g4⟩ := hok3
    have hG : m_kind mi = 2 := of_decide_eq_true g2
    have hO : (r.2.1 y).1 = m_own mi := of_decide_eq_true g3
    unfold m_putA at he
    split at he
    next v q S' =>
      split at he
      next ci fs hw =>
        cases hci : Nat.beq ci x with
        | false => rw [hci] at he; cases he
        | true =>
          cases hyl : Nat.blt y fs.length with
          | false => rw [hci, hyl] at he; cases he
          | true =>
            rw [hci, hyl] at he
            have hci := Nat.eq_of_beq_eq_true hci
            subst hci
            have hyl := Nat.le_of_ble_eq_true hyl
            cases he
            obtain ⟨ty, hd, hn, hf⟩ : ∃ ty, parseFieldDescriptor (r.2.1 y).2.2.1 = some ty ∧ narrow ty (.ref (N0 + v)) = .ref (N0 + v) ∧ fits ty (.ref (N0 + v)) = true := by
              split at g4
              next o h => exact ⟨_, h, rfl, rfl⟩
              next o h => exact ⟨_, h, rfl, rfl⟩
              next => cases g4
            refine va_putF (C := r.1) (T := r.2.1) (N := r.2.2) (ty := ty) (v := .ref (N0 + v)) hx hb hts (m_uw _ r hr) ty0 hty hnm hown hK hP m_cw_D hS q (m_cw_at hw) hr y hyN (hts _ hlink) (fun _ h => h) g1 (hin hG) hO hd hn hf (by rw [List.length_map]; exact hyl) hdec (fun H1 locs1 hP1 _ hS1 => ?_)
            have hP2 : va_P D vwCl (m_cw N0 aI 0 (w.set q (.inr (ci, fs.set y (.inr (.inl v)))))) H1 := by
              rw [m_cw_set, Nat.zero_add]
              show va_P D vwCl ((m_cw N0 aI 0 w).set q (N0 + q, .inr (ci, (fs.set y (.inr (.inl v))).map (m_cv N0)))) H1
              rw [List.map_set]
              exact hP1
            exact K p l e s m args below meth c N0 aI D Qf hC hF H1 locs1 ls k n hl hlen hP2 hS1 (by rw [hk, List.length_set]) hb1 hb2
      next => cases he
    next => cases he
set_option maxHeartbeats 4000000 in
set_option maxRecDepth 100000 in
theorem m_x_new {X : Nat × Nat × (Nat → Int32)} {mi pc x y : Nat} {i : Nat} {z : Int} {L : List (Option mPV)} {S : List mPV} {w : mPW} {bc bs : Nat} {ps' : mPS} {Q : Option mPV → mPW → Prop} (hf : m_fetch mi pc = some (pc, (.new i), x, y, z)) (he : m_exec mi (.new i) x y z pc L S w bc bs = some ps') (K : m_Sem X mi ps' Q) : m_Sem X mi (pc, L, S, w, bc, bs) Q := by
  intro p l e s m args below meth c N0 aI D Qf hC hF H locs ls k n hl hlen hP hS hk hb1 hb2
  have hok := (m_fetch_ok hf).2
  obtain ⟨hx, hb, hml, hown, hts, hin, hK, h0, hX⟩ := id hC
  unfold m_okb at hok
  simp only [Bool.and_eq_true] at hok
  obtain ⟨hok1, hok2⟩ := hok
  dsimp only at hok1 hok2 hl hlen hP hS hk hb1 hb2
  have hdec := of_decide_eq_true hok1
  dsimp only [m_len] at hdec
  obtain ⟨r, hr, hcl, hin1, hin2⟩ := m_clss_w _ (of_decide_eq_true hok2)
  obtain ⟨ty0, hty, hnm, hdf⟩ := m_vt _ r hr
  simp only [m_exec] at he
  unfold m_newo at he
  split at he
  next r' fs b h1 h2 =>
    cases hr.symm.trans h1
    cases hbs : Nat.ble r.2.2 bs with
    | false => rw [hbs] at he; cases he
    | true =>
      rw [hbs] at he
      cases he
      have hbs := Nat.le_of_ble_eq_true hbs
      intro T hT XT
      subst hT
      have hz := m_size (X := X) (mi := mi) h0 hP hS hk XT
      have hKn := hK.1 x _ hr
      suffices key : W p l e (m_rm mi) s m args below meth c T.heap locs k n Qf (F0 m pc ls (S.map (m_cv N0))) from key T rfl XT
      refine W.newcK (C := r.1) (n := r.2.2) hx hb hown (hts _ hcl) (hts _ hin1) (hts _ hin2) rfl hdec (by omega) (by omega) hKn.2.1 hz (fun H1 kC hkC e1 z1 o1 => ?_)
      have hP2 : va_P D vwCl (m_cw N0 aI 0 (w ++ [.inr (x, fs)])) H1 := by
        rw [m_cw_app, Nat.zero_add]
        refine (hP.kept (fun j q hq => o1 q.1 (by have h3 : q.1 < T.heap.size := (hP j q hq).lt; omega))).app (fun j q hq => ?_)
        have hj : j < 1 := (List.getElem?_eq_some_iff.mp hq).1
        rw [show j = 0 by omega] at hq
        cases hq
        exact ⟨_, hr, (u_born ty0 hts (m_uw _ r hr) hKn hkC e1 hty).to (hdf fs h2 N0)⟩
      exact K p l e s m args below meth c N0 aI D Qf hC hF H1 locs ls (k + 1) (n + r.2.2) hl hlen hP2 ⟨Nat.le_trans hS.1 (by omega), fun q g1 g2 => (o1 q (by have := hS.1; omega)).trans (hS.2.1 q g1 g2), hS.2.2⟩ (by rw [List.length_append]; show _ = _ + (_ + 1); omega) (by show k + 1 + b = _; omega) (by show n + r.2.2 + (bs - r.2.2) ≤ _; omega)
  next => cases he
set_option maxHeartbeats 4000000 in
set_option maxRecDepth 100000 in
theorem m_x_newarray {X : Nat × Nat × (Nat → Int32)} {mi pc x y : Nat} {t : ArrayType} {z : Int} {L : List (Option mPV)} {S : List mPV} {w : mPW} {bc bs : Nat} {ps' : mPS} {Q : Option mPV → mPW → Prop} (hf : m_fetch mi pc = some (pc, (.newarray t), x, y, z)) (he : m_exec mi (.newarray t) x y z pc L S w bc bs = some ps') (K : m_Sem X mi ps' Q) : m_Sem X mi (pc, L, S, w, bc, bs) Q := by
  intro p l e s m args below meth c N0 aI D Qf hC hF H locs ls k n hl hlen hP hS hk hb1 hb2
  have hok := (m_fetch_ok hf).2
  obtain ⟨hx, hb, hml, hown, hts, hin, hK, h0, hX⟩ := id hC
  unfold m_okb at hok
  simp only [Bool.and_eq_true] at hok
  obtain ⟨hok1, hok2⟩ := hok
  dsimp only at hok1 hok2 hl hlen hP hS hk hb1 hb2
  have hdec := of_decide_eq_true hok1
  dsimp only [m_len] at hdec
  try simp only [Bool.and_eq_true] at hok2
  obtain ⟨hok2, hok3⟩ := hok2
  have hok2 := of_decide_eq_true hok2
  have hok3 := of_decide_eq_true hok3
  simp only [m_exec] at he
  unfold m_newr at he
  split at he
  next v S' =>
    split at he
    next b =>
      cases hbs : (Nat.ble v bs && Nat.ble v 65536 && Nat.blt x 3) with
      | false => rw [hbs] at he; cases he
      | true =>
        rw [hbs] at he
        cases he
        simp only [Bool.and_eq_true] at hbs
        obtain ⟨⟨hbs, hb6⟩, -⟩ := hbs
        have hbs := Nat.le_of_ble_eq_true hbs
        have hb6 := Nat.le_of_ble_eq_true hb6
        intro T hT XT
        subst hT
        have hz := m_size (X := X) (mi := mi) h0 hP hS hk XT
        have hR : m_R (Int.ofNat v) := ⟨by have := Int.natCast_nonneg v; show _ ≤ (v : Int); omega, by show (v : Int) < _; omega⟩
        have hv0 : ¬ Int32.ofInt (Int.ofNat v) < 0 := by
          have h3 := m_R_lt hR m_R_0
          rw [show (Int32.ofInt 0) = 0 from rfl] at h3
          rw [h3]
          have := Int.natCast_nonneg v
          show ¬ (v : Int) < 0
          omega
        have harr : (Cond.arrayClass (newarray.typeOf t)).before args s = true := by
          rw [hok2]
          rcases (show x = 0 ∨ x = 1 ∨ x = 2 by have : x < 3 := hok3; omega) with rfl | rfl | rfl
          · exact hts _ m_arr_w.1
          · exact hts _ m_arr_w.2.1
          · exact hts _ m_arr_w.2.2
        have hcb : componentBytes (newarray.typeOf t) ≤ 8 := by cases t <;> decide
        suffices key : W p l e (m_rm mi) s m args below meth c T.heap locs k n Qf (F0 m pc ls ((.inl (Int.ofNat v) :: S').map (m_cv N0))) from key T rfl XT
        refine va_newaK (N := v) hx hb harr rfl hdec rfl hv0 (by rw [m_R_nat hR]; rfl) (by have := Nat.mul_le_mul hb6 hcb; omega) (by omega) (by omega) hz (fun H1 cA e1 z1 o1 hA1 hA2 => ?_)
        have hP2 : va_P D vwCl (m_cw N0 aI 0 (w ++ [.inl (x, v, bif Nat.beq x 2 then .inr (fun _ => 0) else .inl (fun _ => 0))])) H1 := by
          rw [m_cw_app, Nat.zero_add]
          refine (hP.kept (fun j q hq => o1 q.1 (by have h3 : q.1 < T.heap.size := (hP j q hq).lt; omega))).app (fun j q hq => ?_)
          have hj : j < 1 := (List.getElem?_eq_some_iff.mp hq).1
          rw [show j = 0 by omega] at hq
          cases hq
          rw [hok2] at e1 hA2
          show va_at D vwCl (N0 + w.length, _) H1
          rcases (show x = 0 ∨ x = 1 ∨ x = 2 by have : x < 3 := hok3; omega) with rfl | rfl | rfl
          · have hc : aI 0 = cA := Option.some.inj ((hK.2 0 _ rfl).2.symm.trans hA2)
            show H1[N0 + w.length]? = some (vp_cell (aI 0) (v, .inl (fun _ => Int32.ofInt 0)))
            rw [hc, vp_cell_i]
            exact e1
          · have hc : aI 1 = cA := Option.some.inj ((hK.2 1 _ rfl).2.symm.trans hA2)
            show H1[N0 + w.length]? = some (vp_cell (aI 1) (v, .inl (fun _ => Int32.ofInt 0)))
            rw [hc, vp_cell_i]
            exact e1
          · have hc : aI 2 = cA := Option.some.inj ((hK.2 2 _ rfl).2.symm.trans hA2)
            show H1[N0 + w.length]? = some (vp_cell (aI 2) (v, .inr (.inl (fun _ => 0))))
            rw [hc, vp_cell_l]
            exact e1
        exact K p l e s m args below meth c N0 aI D Qf hC hF H1 locs ls (k + 1) (n + v) hl hlen hP2 ⟨Nat.le_trans hS.1 (by omega), fun q g1 g2 => (o1 q (by have := hS.1; omega)).trans (hS.2.1 q g1 g2), hS.2.2⟩ (by rw [List.length_append]; show _ = _ + (_ + 1); omega) (by show k + 1 + b = _; omega) (by show n + v + (bs - v) ≤ _; omega)
    next => cases he
  next => cases he
set_option maxHeartbeats 4000000 in
set_option maxRecDepth 100000 in
theorem m_x_invokespecial {X : Nat × Nat × (Nat → Int32)} {mi pc x y : Nat} {i : Nat} {z : Int} {L : List (Option mPV)} {S : List mPV} {w : mPW} {bc bs : Nat} {ps' : mPS} {Q : Option mPV → mPW → Prop} (hf : m_fetch mi pc = some (pc, (.invokespecial i), x, y, z)) (he : m_exec mi (.invokespecial i) x y z pc L S w bc bs = some ps') (K : m_Sem X mi ps' Q) : m_Sem X mi (pc, L, S, w, bc, bs) Q := by
  intro p l e s m args below meth c N0 aI D Qf hC hF H locs ls k n hl hlen hP hS hk hb1 hb2
  have hok := (m_fetch_ok hf).2
  obtain ⟨hx, hb, hml, hown, hts, hin, hK, h0, hX⟩ := id hC
  unfold m_okb at hok
  simp only [Bool.and_eq_true] at hok
  obtain ⟨hok1, hok2⟩ := hok
  dsimp only at hok1 hok2 hl hlen hP hS hk hb1 hb2
  have hdec := of_decide_eq_true hok1
  dsimp only [m_len] at hdec
  try simp only [Bool.and_eq_true] at hok2
  obtain ⟨hok2, hok3⟩ := hok2
  have hw := m_mths_w _ (of_decide_eq_true hok2)
  simp only [m_exec] at he
  split at he
  next q S' =>
    cases hg : (Nat.beq x 1000 && (Nat.ble 1 (m_rm mi).frames && Nat.ble ((S'.map m_cat).sum + 12) (m_rm mi).locals)) with
    | false => rw [hg] at he; cases he
    | true =>
      rw [hg] at he
      cases he
      simp only [Bool.and_eq_true] at hg
      obtain ⟨h1, h2, h3⟩ := hg
      have h1 := Nat.eq_of_beq_eq_true h1
      have h2 := Nat.le_of_ble_eq_true h2
      have h3 := Nat.le_of_ble_eq_true h3
      subst h1
      refine W.objInit hx hb hown (hts _ hw) (hts _ m_obj_w.1) (hts _ m_obj_w.2) rfl (by rw [hml]; exact hl.1) rfl hdec h2 (by show 2 * 0 + _ + 12 ≤ _; rw [m_cats]; omega) ?_
      exact K p l e s m args below meth c N0 aI D Qf hC hF H locs ls k n hl hlen hP hS hk hb1 hb2
  next => cases he
set_option maxHeartbeats 4000000 in
theorem m_step1 {X : Nat × Nat × (Nat → Int32)} {mi pc x y : Nat} {ins : Instr} {z : Int} {L : List (Option mPV)} {S : List mPV} {w : mPW} {bc bs : Nat} {ps' : mPS} {Q : Option mPV → mPW → Prop} (hf : m_fetch mi pc = some (pc, ins, x, y, z)) (he : m_exec mi ins x y z pc L S w bc bs = some ps') (K : m_Sem X mi ps' Q) : m_Sem X mi (pc, L, S, w, bc, bs) Q := by
  cases ins
  case iload i => exact m_x_iload hf he K
  case lload i => exact m_x_lload hf he K
  case iload_n i => exact m_x_iload_n hf he K
  case lload_n i => exact m_x_lload_n hf he K
  case fload_n i => exact m_x_fload_n hf he K
  case aload i => exact m_x_aload hf he K
  case aload_n i => exact m_x_aload_n hf he K
  case istore i => exact m_x_istore hf he K
  case istore_n i => exact m_x_istore_n hf he K
  case astore i => exact m_x_astore hf he K
  case astore_n i => exact m_x_astore_n hf he K
  case fstore_n i => exact m_x_fstore_n hf he K
  case lstore i => exact m_x_lstore hf he K
  case lstore_n i => exact m_x_lstore_n hf he K
  case iconst v => exact m_x_iconst hf he K
  case bipush v => exact m_x_bipush hf he K
  case sipush v => exact m_x_sipush hf he K
  case ldc i => exact m_x_ldc hf he K
  case ldc_w i => exact m_x_ldc_w hf he K
  case ldc2_w i => exact m_x_ldc2_w hf he K
  case lconst v => exact m_x_lconst hf he K
  case fconst v => exact m_x_fconst hf he K
  case iadd => exact m_x_iadd hf he K
  case isub => exact m_x_isub hf he K
  case imul => exact m_x_imul hf he K
  case iand => exact m_x_iand hf he K
  case ior => exact m_x_ior hf he K
  case ixor => exact m_x_ixor hf he K
  case ishl => exact m_x_ishl hf he K
  case ishr => exact m_x_ishr hf he K
  case iushr => exact m_x_iushr hf he K
  case land => exact m_x_land hf he K
  case lor => exact m_x_lor hf he K
  case lsub => exact m_x_lsub hf he K
  case lxor => exact m_x_lxor hf he K
  case lshl => exact m_x_lshl hf he K
  case lshr => exact m_x_lshr hf he K
  case lcmp => exact m_x_lcmp hf he K
  case l2i => exact m_x_l2i hf he K
  case i2l => exact m_x_i2l hf he K
  case i2f => exact m_x_i2f hf he K
  case f2i => exact m_x_f2i hf he K
  case fcmp o => exact m_x_fcmp hf he K
  case pop => exact m_x_pop hf he K
  case dup => exact m_x_dup hf he K
  case dup2 => exact m_x_dup2 hf he K
  case goto o => exact m_x_goto hf he K
  case iinc i d => exact m_x_iinc hf he K
  case arraylength => exact m_x_arraylength hf he K
  case getfield i => exact m_x_getfield hf he K
  case putfield i => exact m_x_putfield hf he K
  case new i => exact m_x_new hf he K
  case newarray t => exact m_x_newarray hf he K
  case invokespecial i => exact m_x_invokespecial hf he K
  all_goals (exact absurd he (fun h => by cases h))
