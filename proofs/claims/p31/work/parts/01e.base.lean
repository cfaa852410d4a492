-- everything that is fixed in a method's walk
abbrev xT : Type := Program × Launch × Env × Room × State × MethodId × Array Value × List Frame × Method × Code × (State → Prop) × va_G × (Nat → Prop)
def xD (X : xT) : va_G := X.2.2.2.2.2.2.2.2.2.2.2.1
def xl (X : xT) : Launch := X.2.1
def gg (cI : ClassId) (X : xT) (nL k n : Nat) (ws : va_W) (lv : List (Nat × Value)) (pc : Nat) (st : List Value) : Prop :=
  match X with
  | (p, l, e, R, s, m, args, below, meth, c, Q, D, A) => ∀ (H : Heap) (locs : List Loc) (ls : Array Slot), va_P D vwCl ws H → va_D A ws → va_S A s.heap H locs → lv_has ls nL lv → W p l e R s m args below meth c H locs k n Q (F0 m pc ls st)
def cx (cI : ClassId) (X : xT) (nL : Nat) (cc : ByteArray) (own : String) (rm : Room) : Prop :=
  match X with
  | (p, l, e, R, s, m, args, below, meth, c, Q, D, A) => p.tables.exec = Jvm.exec ∧ c.code = cc ∧ c.maxLocals = nL ∧ s.vm.findClass own = some m.cls ∧ (∀ w ∈ gtb, w.before args s = true) ∧ va_K D vwCl [(cI, .int)] s ∧ (∀ q, s.heap.size ≤ q → A q) ∧ R = rm ∧ nF s
section GG
variable {cI : ClassId} {X : xT} {nL k n : Nat} {cc : ByteArray} {own : String} {rm : Room} {ws : va_W} {lv : List (Nat × Value)} {pc : Nat} {rest : List Value}
theorem g_iconst (C : cx cI X nL cc own rm) {z : Int} {v : Int32} (hd : decode cc pc = .ok (.iconst z, 1)) (hv : Int32.ofInt z = v) (kk : gg cI X nL k n ws lv (pc + 1) (.int v :: rest)) : gg cI X nL k n ws lv pc rest := by
  obtain ⟨p, l, e, R, s, m, args, below, meth, c, Q, D, A⟩ := X
  exact fun H locs ls hP hD hS hl => lv_iconst C.1 C.2.1 hd hv (kk H locs ls hP hD hS hl)
theorem g_bipush (C : cx cI X nL cc own rm) {z : Int} {v : Int32} (hd : decode cc pc = .ok (.bipush z, 2)) (hv : (Int8.ofInt z).toInt32 = v) (kk : gg cI X nL k n ws lv (pc + 2) (.int v :: rest)) : gg cI X nL k n ws lv pc rest := by
  obtain ⟨p, l, e, R, s, m, args, below, meth, c, Q, D, A⟩ := X
  exact fun H locs ls hP hD hS hl => lv_bipush C.1 C.2.1 hd hv (kk H locs ls hP hD hS hl)
theorem g_sipush (C : cx cI X nL cc own rm) {z : Int} {v : Int32} (hd : decode cc pc = .ok (.sipush z, 3)) (hv : (Int16.ofInt z).toInt32 = v) (kk : gg cI X nL k n ws lv (pc + 3) (.int v :: rest)) : gg cI X nL k n ws lv pc rest := by
  obtain ⟨p, l, e, R, s, m, args, below, meth, c, Q, D, A⟩ := X
  exact fun H locs ls hP hD hS hl => lv_sipush C.1 C.2.1 hd hv (kk H locs ls hP hD hS hl)
theorem g_lconst (C : cx cI X nL cc own rm) {z : Fin 2} {v : Int64} (hd : decode cc pc = .ok (.lconst z, 1)) (hv : Int64.ofNat (z : Nat) = v) (kk : gg cI X nL k n ws lv (pc + 1) (.long v :: rest)) : gg cI X nL k n ws lv pc rest := by
  obtain ⟨p, l, e, R, s, m, args, below, meth, c, Q, D, A⟩ := X
  exact fun H locs ls hP hD hS hl => lv_lconst C.1 C.2.1 hd hv (kk H locs ls hP hD hS hl)
theorem g_ldc (C : cx cI X nL cc own rm) {idx : Nat} {v : Int32} (hw : Cond.constant own idx v ∈ gtb) (hd : decode cc pc = .ok (.ldc idx, 2)) (kk : gg cI X nL k n ws lv (pc + 2) (.int v :: rest)) : gg cI X nL k n ws lv pc rest := by
  obtain ⟨p, l, e, R, s, m, args, below, meth, c, Q, D, A⟩ := X
  obtain ⟨hx, hb, hml, hown, hts, hK, hA, hR, hN⟩ := C
  exact fun H locs ls hP hD hS hl => lv_ldc hx hb hown (hts _ hw) hd (kk H locs ls hP hD hS hl)
theorem g_ldcw (C : cx cI X nL cc own rm) {idx : Nat} {v : Int32} (hw : Cond.constant own idx v ∈ gtb) (hd : decode cc pc = .ok (.ldc_w idx, 3)) (kk : gg cI X nL k n ws lv (pc + 3) (.int v :: rest)) : gg cI X nL k n ws lv pc rest := by
  obtain ⟨p, l, e, R, s, m, args, below, meth, c, Q, D, A⟩ := X
  obtain ⟨hx, hb, hml, hown, hts, hK, hA, hR, hN⟩ := C
  exact fun H locs ls hP hD hS hl => lv_ldcw hx hb hown (hts _ hw) hd (kk H locs ls hP hD hS hl)
theorem g_ldc2 (C : cx cI X nL cc own rm) {idx : Nat} {v : Int64} (hw : Cond.constantLong own idx v ∈ gtb) (hd : decode cc pc = .ok (.ldc2_w idx, 3)) (kk : gg cI X nL k n ws lv (pc + 3) (.long v :: rest)) : gg cI X nL k n ws lv pc rest := by
  obtain ⟨p, l, e, R, s, m, args, below, meth, c, Q, D, A⟩ := X
  obtain ⟨hx, hb, hml, hown, hts, hK, hA, hR, hN⟩ := C
  exact fun H locs ls hP hD hS hl => lv_ldc2 hx hb hown (hts _ hw) hd (kk H locs ls hP hD hS hl)
theorem g_iload_n (C : cx cI X nL cc own rm) {z : Fin 4} {i pl : Nat} {x : Int32} (hd : decode cc pc = .ok (.iload_n z, 1)) (hi : (z : Nat) = i) (hv : lv[pl]? = some (i, .int x)) (kk : gg cI X nL k n ws lv (pc + 1) (.int x :: rest)) : gg cI X nL k n ws lv pc rest := by
  obtain ⟨p, l, e, R, s, m, args, below, meth, c, Q, D, A⟩ := X
  exact fun H locs ls hP hD hS hl => lv_iload_n C.1 C.2.1 hd hi (lv_at hl pl hv) (kk H locs ls hP hD hS hl)
theorem g_iload (C : cx cI X nL cc own rm) {i pl : Nat} {x : Int32} (hd : decode cc pc = .ok (.iload i, 2)) (hv : lv[pl]? = some (i, .int x)) (kk : gg cI X nL k n ws lv (pc + 2) (.int x :: rest)) : gg cI X nL k n ws lv pc rest := by
  obtain ⟨p, l, e, R, s, m, args, below, meth, c, Q, D, A⟩ := X
  exact fun H locs ls hP hD hS hl => lv_iload C.1 C.2.1 hd (lv_at hl pl hv) (kk H locs ls hP hD hS hl)
theorem g_lload_n (C : cx cI X nL cc own rm) {z : Fin 4} {i pl : Nat} {x : Int64} (hd : decode cc pc = .ok (.lload_n z, 1)) (hi : (z : Nat) = i) (hv : lv[pl]? = some (i, .long x)) (kk : gg cI X nL k n ws lv (pc + 1) (.long x :: rest)) : gg cI X nL k n ws lv pc rest := by
  obtain ⟨p, l, e, R, s, m, args, below, meth, c, Q, D, A⟩ := X
  exact fun H locs ls hP hD hS hl => lv_lload_n C.1 C.2.1 hd hi (lv_at hl pl hv) (kk H locs ls hP hD hS hl)
theorem g_lload (C : cx cI X nL cc own rm) {i pl : Nat} {x : Int64} (hd : decode cc pc = .ok (.lload i, 2)) (hv : lv[pl]? = some (i, .long x)) (kk : gg cI X nL k n ws lv (pc + 2) (.long x :: rest)) : gg cI X nL k n ws lv pc rest := by
  obtain ⟨p, l, e, R, s, m, args, below, meth, c, Q, D, A⟩ := X
  exact fun H locs ls hP hD hS hl => lv_lload C.1 C.2.1 hd (lv_at hl pl hv) (kk H locs ls hP hD hS hl)
theorem g_aload_n (C : cx cI X nL cc own rm) {z : Fin 4} {i pl : Nat} {x : Nat} (hd : decode cc pc = .ok (.aload_n z, 1)) (hi : (z : Nat) = i) (hv : lv[pl]? = some (i, .ref x)) (kk : gg cI X nL k n ws lv (pc + 1) (.ref x :: rest)) : gg cI X nL k n ws lv pc rest := by
  obtain ⟨p, l, e, R, s, m, args, below, meth, c, Q, D, A⟩ := X
  exact fun H locs ls hP hD hS hl => lv_aload_n C.1 C.2.1 hd hi (lv_at hl pl hv) (kk H locs ls hP hD hS hl)
theorem g_aload (C : cx cI X nL cc own rm) {i pl : Nat} {x : Nat} (hd : decode cc pc = .ok (.aload i, 2)) (hv : lv[pl]? = some (i, .ref x)) (kk : gg cI X nL k n ws lv (pc + 2) (.ref x :: rest)) : gg cI X nL k n ws lv pc rest := by
  obtain ⟨p, l, e, R, s, m, args, below, meth, c, Q, D, A⟩ := X
  exact fun H locs ls hP hD hS hl => lv_aload C.1 C.2.1 hd (lv_at hl pl hv) (kk H locs ls hP hD hS hl)
theorem g_istore_n (C : cx cI X nL cc own rm) {z : Fin 4} {i : Nat} {x : Int32} {lv' : List (Nat × Value)} (hd : decode cc pc = .ok (.istore_n z, 1)) (hi : (z : Nat) = i) (hn : i < nL) (hl' : (i, Value.int x) :: lv.filter (fun q => !(q.1 == i) && !(q.1 + 1 == i && q.2.category == 2)) = lv') (kk : gg cI X nL k n ws lv' (pc + 1) rest) : gg cI X nL k n ws lv pc (.int x :: rest) := by
  obtain ⟨p, l, e, R, s, m, args, below, meth, c, Q, D, A⟩ := X
  exact fun H locs ls hP hD hS hl => lv_istore_n C.1 C.2.1 hd hi hl hn hl' (fun ls hl => kk H locs ls hP hD hS hl)
theorem g_istore (C : cx cI X nL cc own rm) {i : Nat} {x : Int32} {lv' : List (Nat × Value)} (hd : decode cc pc = .ok (.istore i, 2)) (hn : i < nL) (hl' : (i, Value.int x) :: lv.filter (fun q => !(q.1 == i) && !(q.1 + 1 == i && q.2.category == 2)) = lv') (kk : gg cI X nL k n ws lv' (pc + 2) rest) : gg cI X nL k n ws lv pc (.int x :: rest) := by
  obtain ⟨p, l, e, R, s, m, args, below, meth, c, Q, D, A⟩ := X
  exact fun H locs ls hP hD hS hl => lv_istore C.1 C.2.1 hd hl hn hl' (fun ls hl => kk H locs ls hP hD hS hl)
theorem g_lstore_n (C : cx cI X nL cc own rm) {z : Fin 4} {i : Nat} {x : Int64} {lv' : List (Nat × Value)} (hd : decode cc pc = .ok (.lstore_n z, 1)) (hi : (z : Nat) = i) (hn : i + 1 < nL) (hl' : (i, Value.long x) :: lv.filter (fun q => !(q.1 == i) && (!(q.1 == i + 1) && !(q.1 + 1 == i && q.2.category == 2))) = lv') (kk : gg cI X nL k n ws lv' (pc + 1) rest) : gg cI X nL k n ws lv pc (.long x :: rest) := by
  obtain ⟨p, l, e, R, s, m, args, below, meth, c, Q, D, A⟩ := X
  exact fun H locs ls hP hD hS hl => lv_lstore_n C.1 C.2.1 hd hi hl hn hl' (fun ls hl => kk H locs ls hP hD hS hl)
theorem g_lstore (C : cx cI X nL cc own rm) {i : Nat} {x : Int64} {lv' : List (Nat × Value)} (hd : decode cc pc = .ok (.lstore i, 2)) (hn : i + 1 < nL) (hl' : (i, Value.long x) :: lv.filter (fun q => !(q.1 == i) && (!(q.1 == i + 1) && !(q.1 + 1 == i && q.2.category == 2))) = lv') (kk : gg cI X nL k n ws lv' (pc + 2) rest) : gg cI X nL k n ws lv pc (.long x :: rest) := by
  obtain ⟨p, l, e, R, s, m, args, below, meth, c, Q, D, A⟩ := X
  exact fun H locs ls hP hD hS hl => lv_lstore C.1 C.2.1 hd hl hn hl' (fun ls hl => kk H locs ls hP hD hS hl)
theorem g_astore_n (C : cx cI X nL cc own rm) {z : Fin 4} {i : Nat} {x : Nat} {lv' : List (Nat × Value)} (hd : decode cc pc = .ok (.astore_n z, 1)) (hi : (z : Nat) = i) (hn : i < nL) (hl' : (i, Value.ref x) :: lv.filter (fun q => !(q.1 == i) && !(q.1 + 1 == i && q.2.category == 2)) = lv') (kk : gg cI X nL k n ws lv' (pc + 1) rest) : gg cI X nL k n ws lv pc (.ref x :: rest) := by
  obtain ⟨p, l, e, R, s, m, args, below, meth, c, Q, D, A⟩ := X
  exact fun H locs ls hP hD hS hl => lv_astore_n C.1 C.2.1 hd hi hl hn hl' (fun ls hl => kk H locs ls hP hD hS hl)
theorem g_iinc (C : cx cI X nL cc own rm) {i pl : Nat} {z : Int} {x v : Int32} {lv' : List (Nat × Value)} (hd : decode cc pc = .ok (.iinc i z, 3)) (hk : lv[pl]? = some (i, .int x)) (hv : x + Int32.ofInt z = v) (hn : i < nL) (hl' : (i, Value.int v) :: lv.filter (fun q => !(q.1 == i) && !(q.1 + 1 == i && q.2.category == 2)) = lv') (kk : gg cI X nL k n ws lv' (pc + 3) rest) : gg cI X nL k n ws lv pc rest := by
  obtain ⟨p, l, e, R, s, m, args, below, meth, c, Q, D, A⟩ := X
  exact fun H locs ls hP hD hS hl => lv_iinc C.1 C.2.1 hd hl hk hv hn hl' (fun ls hl => kk H locs ls hP hD hS hl)
theorem g_iadd (C : cx cI X nL cc own rm) {x y : Int32} (hd : decode cc pc = .ok (.iadd, 1)) (kk : gg cI X nL k n ws lv (pc + 1) (.int (x + y) :: rest)) : gg cI X nL k n ws lv pc (.int y :: .int x :: rest) := by
  obtain ⟨p, l, e, R, s, m, args, below, meth, c, Q, D, A⟩ := X
  exact fun H locs ls hP hD hS hl => lv_iadd C.1 C.2.1 hd (kk H locs ls hP hD hS hl)
theorem g_isub (C : cx cI X nL cc own rm) {x y : Int32} (hd : decode cc pc = .ok (.isub, 1)) (kk : gg cI X nL k n ws lv (pc + 1) (.int (x - y) :: rest)) : gg cI X nL k n ws lv pc (.int y :: .int x :: rest) := by
  obtain ⟨p, l, e, R, s, m, args, below, meth, c, Q, D, A⟩ := X
  exact fun H locs ls hP hD hS hl => lv_isub C.1 C.2.1 hd (kk H locs ls hP hD hS hl)
theorem g_imul (C : cx cI X nL cc own rm) {x y : Int32} (hd : decode cc pc = .ok (.imul, 1)) (kk : gg cI X nL k n ws lv (pc + 1) (.int (x * y) :: rest)) : gg cI X nL k n ws lv pc (.int y :: .int x :: rest) := by
  obtain ⟨p, l, e, R, s, m, args, below, meth, c, Q, D, A⟩ := X
  exact fun H locs ls hP hD hS hl => lv_imul C.1 C.2.1 hd (kk H locs ls hP hD hS hl)
theorem g_iand (C : cx cI X nL cc own rm) {x y : Int32} (hd : decode cc pc = .ok (.iand, 1)) (kk : gg cI X nL k n ws lv (pc + 1) (.int (x &&& y) :: rest)) : gg cI X nL k n ws lv pc (.int y :: .int x :: rest) := by
  obtain ⟨p, l, e, R, s, m, args, below, meth, c, Q, D, A⟩ := X
  exact fun H locs ls hP hD hS hl => lv_iand C.1 C.2.1 hd (kk H locs ls hP hD hS hl)
theorem g_ior (C : cx cI X nL cc own rm) {x y : Int32} (hd : decode cc pc = .ok (.ior, 1)) (kk : gg cI X nL k n ws lv (pc + 1) (.int (x ||| y) :: rest)) : gg cI X nL k n ws lv pc (.int y :: .int x :: rest) := by
  obtain ⟨p, l, e, R, s, m, args, below, meth, c, Q, D, A⟩ := X
  exact fun H locs ls hP hD hS hl => lv_ior C.1 C.2.1 hd (kk H locs ls hP hD hS hl)
theorem g_ixor (C : cx cI X nL cc own rm) {x y : Int32} (hd : decode cc pc = .ok (.ixor, 1)) (kk : gg cI X nL k n ws lv (pc + 1) (.int (x ^^^ y) :: rest)) : gg cI X nL k n ws lv pc (.int y :: .int x :: rest) := by
  obtain ⟨p, l, e, R, s, m, args, below, meth, c, Q, D, A⟩ := X
  exact fun H locs ls hP hD hS hl => lv_ixor C.1 C.2.1 hd (kk H locs ls hP hD hS hl)
theorem g_ishl (C : cx cI X nL cc own rm) {x y : Int32} (hd : decode cc pc = .ok (.ishl, 1)) (kk : gg cI X nL k n ws lv (pc + 1) (.int (x <<< (y &&& 31)) :: rest)) : gg cI X nL k n ws lv pc (.int y :: .int x :: rest) := by
  obtain ⟨p, l, e, R, s, m, args, below, meth, c, Q, D, A⟩ := X
  exact fun H locs ls hP hD hS hl => lv_ishl C.1 C.2.1 hd (kk H locs ls hP hD hS hl)
theorem g_ishr (C : cx cI X nL cc own rm) {x y : Int32} (hd : decode cc pc = .ok (.ishr, 1)) (kk : gg cI X nL k n ws lv (pc + 1) (.int (x >>> (y &&& 31)) :: rest)) : gg cI X nL k n ws lv pc (.int y :: .int x :: rest) := by
  obtain ⟨p, l, e, R, s, m, args, below, meth, c, Q, D, A⟩ := X
  exact fun H locs ls hP hD hS hl => lv_ishr C.1 C.2.1 hd (kk H locs ls hP hD hS hl)
theorem g_ladd (C : cx cI X nL cc own rm) {x y : Int64} (hd : decode cc pc = .ok (.ladd, 1)) (kk : gg cI X nL k n ws lv (pc + 1) (.long (x + y) :: rest)) : gg cI X nL k n ws lv pc (.long y :: .long x :: rest) := by
  obtain ⟨p, l, e, R, s, m, args, below, meth, c, Q, D, A⟩ := X
  exact fun H locs ls hP hD hS hl => lv_ladd C.1 C.2.1 hd (kk H locs ls hP hD hS hl)
theorem g_lsub (C : cx cI X nL cc own rm) {x y : Int64} (hd : decode cc pc = .ok (.lsub, 1)) (kk : gg cI X nL k n ws lv (pc + 1) (.long (x - y) :: rest)) : gg cI X nL k n ws lv pc (.long y :: .long x :: rest) := by
  obtain ⟨p, l, e, R, s, m, args, below, meth, c, Q, D, A⟩ := X
  exact fun H locs ls hP hD hS hl => lv_lsub C.1 C.2.1 hd (kk H locs ls hP hD hS hl)
theorem g_lmul (C : cx cI X nL cc own rm) {x y : Int64} (hd : decode cc pc = .ok (.lmul, 1)) (kk : gg cI X nL k n ws lv (pc + 1) (.long (x * y) :: rest)) : gg cI X nL k n ws lv pc (.long y :: .long x :: rest) := by
  obtain ⟨p, l, e, R, s, m, args, below, meth, c, Q, D, A⟩ := X
  exact fun H locs ls hP hD hS hl => lv_lmul C.1 C.2.1 hd (kk H locs ls hP hD hS hl)
theorem g_idiv (C : cx cI X nL cc own rm) {x y : Int32} (hd : decode cc pc = .ok (.idiv, 1)) (hne : ¬ y = 0) (kk : gg cI X nL k n ws lv (pc + 1) (.int (x / y) :: rest)) : gg cI X nL k n ws lv pc (.int y :: .int x :: rest) := by
  obtain ⟨p, l, e, R, s, m, args, below, meth, c, Q, D, A⟩ := X
  exact fun H locs ls hP hD hS hl => lv_idiv C.1 C.2.1 hd hne (kk H locs ls hP hD hS hl)
theorem g_irem (C : cx cI X nL cc own rm) {x y : Int32} (hd : decode cc pc = .ok (.irem, 1)) (hne : ¬ y = 0) (kk : gg cI X nL k n ws lv (pc + 1) (.int (x - x / y * y) :: rest)) : gg cI X nL k n ws lv pc (.int y :: .int x :: rest) := by
  obtain ⟨p, l, e, R, s, m, args, below, meth, c, Q, D, A⟩ := X
  exact fun H locs ls hP hD hS hl => lv_irem C.1 C.2.1 hd hne (kk H locs ls hP hD hS hl)
theorem g_ldiv (C : cx cI X nL cc own rm) {x y : Int64} (hd : decode cc pc = .ok (.ldiv, 1)) (hne : ¬ y = 0) (kk : gg cI X nL k n ws lv (pc + 1) (.long (x / y) :: rest)) : gg cI X nL k n ws lv pc (.long y :: .long x :: rest) := by
  obtain ⟨p, l, e, R, s, m, args, below, meth, c, Q, D, A⟩ := X
  exact fun H locs ls hP hD hS hl => lv_ldiv C.1 C.2.1 hd hne (kk H locs ls hP hD hS hl)
theorem g_lrem (C : cx cI X nL cc own rm) {x y : Int64} (hd : decode cc pc = .ok (.lrem, 1)) (hne : ¬ y = 0) (kk : gg cI X nL k n ws lv (pc + 1) (.long (x - x / y * y) :: rest)) : gg cI X nL k n ws lv pc (.long y :: .long x :: rest) := by
  obtain ⟨p, l, e, R, s, m, args, below, meth, c, Q, D, A⟩ := X
  exact fun H locs ls hP hD hS hl => lv_lrem C.1 C.2.1 hd hne (kk H locs ls hP hD hS hl)
theorem g_i2l (C : cx cI X nL cc own rm) {x : Int32} (hd : decode cc pc = .ok (.i2l, 1)) (kk : gg cI X nL k n ws lv (pc + 1) (.long x.toInt64 :: rest)) : gg cI X nL k n ws lv pc (.int x :: rest) := by
  obtain ⟨p, l, e, R, s, m, args, below, meth, c, Q, D, A⟩ := X
  exact fun H locs ls hP hD hS hl => lv_i2l C.1 C.2.1 hd rfl (kk H locs ls hP hD hS hl)
theorem g_l2i (C : cx cI X nL cc own rm) {x : Int64} (hd : decode cc pc = .ok (.l2i, 1)) (kk : gg cI X nL k n ws lv (pc + 1) (.int x.toInt32 :: rest)) : gg cI X nL k n ws lv pc (.long x :: rest) := by
  obtain ⟨p, l, e, R, s, m, args, below, meth, c, Q, D, A⟩ := X
  exact fun H locs ls hP hD hS hl => lv_l2i C.1 C.2.1 hd rfl (kk H locs ls hP hD hS hl)
theorem g_iushr (C : cx cI X nL cc own rm) {x y : Int32} (hd : decode cc pc = .ok (.iushr, 1)) (kk : gg cI X nL k n ws lv (pc + 1) (.int (x.toUInt32 >>> (y.toUInt32 &&& Int32.toUInt32 31)).toInt32 :: rest)) : gg cI X nL k n ws lv pc (.int y :: .int x :: rest) := by
  obtain ⟨p, l, e, R, s, m, args, below, meth, c, Q, D, A⟩ := X
  exact fun H locs ls hP hD hS hl => lv_iushr C.1 C.2.1 hd rfl (kk H locs ls hP hD hS hl)
theorem g_lcmp (C : cx cI X nL cc own rm) {x y : Int64} (hd : decode cc pc = .ok (.lcmp, 1)) (kk : gg cI X nL k n ws lv (pc + 1) (.int (lg_cmp x y) :: rest)) : gg cI X nL k n ws lv pc (.long y :: .long x :: rest) := by
  obtain ⟨p, l, e, R, s, m, args, below, meth, c, Q, D, A⟩ := X
  exact fun H locs ls hP hD hS hl => W.lcmp C.1 C.2.1 hd (kk H locs ls hP hD hS hl)
theorem g_dup (C : cx cI X nL cc own rm) {va : Value} (hd : decode cc pc = .ok (.dup, 1)) (hva : va.category = 1) (kk : gg cI X nL k n ws lv (pc + 1) (va :: va :: rest)) : gg cI X nL k n ws lv pc (va :: rest) := by
  obtain ⟨p, l, e, R, s, m, args, below, meth, c, Q, D, A⟩ := X
  exact fun H locs ls hP hD hS hl => lv_dup C.1 C.2.1 hd hva (kk H locs ls hP hD hS hl)
theorem g_dup2 (C : cx cI X nL cc own rm) {va vb : Value} (hd : decode cc pc = .ok (.dup2, 1)) (hva : va.category = 1) (hvb : vb.category = 1) (kk : gg cI X nL k n ws lv (pc + 1) (va :: vb :: va :: vb :: rest)) : gg cI X nL k n ws lv pc (va :: vb :: rest) := by
  obtain ⟨p, l, e, R, s, m, args, below, meth, c, Q, D, A⟩ := X
  exact fun H locs ls hP hD hS hl => lv_dup2_11 C.1 C.2.1 hd hva hvb (kk H locs ls hP hD hS hl)
theorem g_dup_x1 (C : cx cI X nL cc own rm) {va vb : Value} (hd : decode cc pc = .ok (.dup_x1, 1)) (hva : va.category = 1) (hvb : vb.category = 1) (kk : gg cI X nL k n ws lv (pc + 1) (va :: vb :: va :: rest)) : gg cI X nL k n ws lv pc (va :: vb :: rest) := by
  obtain ⟨p, l, e, R, s, m, args, below, meth, c, Q, D, A⟩ := X
  exact fun H locs ls hP hD hS hl => lv_dup_x1 C.1 C.2.1 hd hva hvb (kk H locs ls hP hD hS hl)
theorem g_pop (C : cx cI X nL cc own rm) {va : Value} (hd : decode cc pc = .ok (.pop, 1)) (hva : va.category = 1) (kk : gg cI X nL k n ws lv (pc + 1) rest) : gg cI X nL k n ws lv pc (va :: rest) := by
  obtain ⟨p, l, e, R, s, m, args, below, meth, c, Q, D, A⟩ := X
  exact fun H locs ls hP hD hS hl => lv_pop C.1 C.2.1 hd hva (kk H locs ls hP hD hS hl)
theorem g_goto (C : cx cI X nL cc own rm) {off : Int} {tgt : Nat} (hd : decode cc pc = .ok (.goto off, 3)) (ht : (pc : Int) + off = (tgt : Int)) (kk : gg cI X nL k n ws lv tgt rest) : gg cI X nL k n ws lv pc rest := by
  obtain ⟨p, l, e, R, s, m, args, below, meth, c, Q, D, A⟩ := X
  exact fun H locs ls hP hD hS hl => lv_goto C.1 C.2.1 hd ht (kk H locs ls hP hD hS hl)
theorem g_if_eq (C : cx cI X nL cc own rm) {x : Int32} {off : Int} {tgt : Nat} (hd : decode cc pc = .ok (.ifCond .eq off, 3)) (ht : (pc : Int) + off = (tgt : Int)) (kt : x = 0 → gg cI X nL k n ws lv tgt rest) (kf : ¬ x = 0 → gg cI X nL k n ws lv (pc + 3) rest) : gg cI X nL k n ws lv pc (.int x :: rest) := by
  obtain ⟨p, l, e, R, s, m, args, below, meth, c, Q, D, A⟩ := X
  exact fun H locs ls hP hD hS hl => lv_if_eq C.1 C.2.1 hd ht (fun h => kt h H locs ls hP hD hS hl) (fun h => kf h H locs ls hP hD hS hl)
theorem g_if_ne (C : cx cI X nL cc own rm) {x : Int32} {off : Int} {tgt : Nat} (hd : decode cc pc = .ok (.ifCond .ne off, 3)) (ht : (pc : Int) + off = (tgt : Int)) (kt : ¬ x = 0 → gg cI X nL k n ws lv tgt rest) (kf : x = 0 → gg cI X nL k n ws lv (pc + 3) rest) : gg cI X nL k n ws lv pc (.int x :: rest) := by
  obtain ⟨p, l, e, R, s, m, args, below, meth, c, Q, D, A⟩ := X
  exact fun H locs ls hP hD hS hl => lv_if_ne C.1 C.2.1 hd ht (fun h => kt h H locs ls hP hD hS hl) (fun h => kf h H locs ls hP hD hS hl)
theorem g_if_lt (C : cx cI X nL cc own rm) {x : Int32} {off : Int} {tgt : Nat} (hd : decode cc pc = .ok (.ifCond .lt off, 3)) (ht : (pc : Int) + off = (tgt : Int)) (kt : x < 0 → gg cI X nL k n ws lv tgt rest) (kf : ¬ x < 0 → gg cI X nL k n ws lv (pc + 3) rest) : gg cI X nL k n ws lv pc (.int x :: rest) := by
  obtain ⟨p, l, e, R, s, m, args, below, meth, c, Q, D, A⟩ := X
  exact fun H locs ls hP hD hS hl => lv_if_lt C.1 C.2.1 hd ht (fun h => kt h H locs ls hP hD hS hl) (fun h => kf h H locs ls hP hD hS hl)
theorem g_if_ge (C : cx cI X nL cc own rm) {x : Int32} {off : Int} {tgt : Nat} (hd : decode cc pc = .ok (.ifCond .ge off, 3)) (ht : (pc : Int) + off = (tgt : Int)) (kt : 0 ≤ x → gg cI X nL k n ws lv tgt rest) (kf : ¬ 0 ≤ x → gg cI X nL k n ws lv (pc + 3) rest) : gg cI X nL k n ws lv pc (.int x :: rest) := by
  obtain ⟨p, l, e, R, s, m, args, below, meth, c, Q, D, A⟩ := X
  exact fun H locs ls hP hD hS hl => lv_if_ge C.1 C.2.1 hd ht (fun h => kt h H locs ls hP hD hS hl) (fun h => kf h H locs ls hP hD hS hl)
theorem g_if_gt (C : cx cI X nL cc own rm) {x : Int32} {off : Int} {tgt : Nat} (hd : decode cc pc = .ok (.ifCond .gt off, 3)) (ht : (pc : Int) + off = (tgt : Int)) (kt : 0 < x → gg cI X nL k n ws lv tgt rest) (kf : ¬ 0 < x → gg cI X nL k n ws lv (pc + 3) rest) : gg cI X nL k n ws lv pc (.int x :: rest) := by
  obtain ⟨p, l, e, R, s, m, args, below, meth, c, Q, D, A⟩ := X
  exact fun H locs ls hP hD hS hl => lv_if_gt C.1 C.2.1 hd ht (fun h => kt h H locs ls hP hD hS hl) (fun h => kf h H locs ls hP hD hS hl)
theorem g_if_le (C : cx cI X nL cc own rm) {x : Int32} {off : Int} {tgt : Nat} (hd : decode cc pc = .ok (.ifCond .le off, 3)) (ht : (pc : Int) + off = (tgt : Int)) (kt : x ≤ 0 → gg cI X nL k n ws lv tgt rest) (kf : ¬ x ≤ 0 → gg cI X nL k n ws lv (pc + 3) rest) : gg cI X nL k n ws lv pc (.int x :: rest) := by
  obtain ⟨p, l, e, R, s, m, args, below, meth, c, Q, D, A⟩ := X
  exact fun H locs ls hP hD hS hl => lv_if_le C.1 C.2.1 hd ht (fun h => kt h H locs ls hP hD hS hl) (fun h => kf h H locs ls hP hD hS hl)
theorem g_icmp_eq (C : cx cI X nL cc own rm) {x y : Int32} {off : Int} {tgt : Nat} (hd : decode cc pc = .ok (.if_icmp .eq off, 3)) (ht : (pc : Int) + off = (tgt : Int)) (kt : x = y → gg cI X nL k n ws lv tgt rest) (kf : ¬ x = y → gg cI X nL k n ws lv (pc + 3) rest) : gg cI X nL k n ws lv pc (.int y :: .int x :: rest) := by
  obtain ⟨p, l, e, R, s, m, args, below, meth, c, Q, D, A⟩ := X
  exact fun H locs ls hP hD hS hl => lv_icmp_eq C.1 C.2.1 hd ht (fun h => kt h H locs ls hP hD hS hl) (fun h => kf h H locs ls hP hD hS hl)
theorem g_icmp_ne (C : cx cI X nL cc own rm) {x y : Int32} {off : Int} {tgt : Nat} (hd : decode cc pc = .ok (.if_icmp .ne off, 3)) (ht : (pc : Int) + off = (tgt : Int)) (kt : ¬ x = y → gg cI X nL k n ws lv tgt rest) (kf : x = y → gg cI X nL k n ws lv (pc + 3) rest) : gg cI X nL k n ws lv pc (.int y :: .int x :: rest) := by
  obtain ⟨p, l, e, R, s, m, args, below, meth, c, Q, D, A⟩ := X
  exact fun H locs ls hP hD hS hl => lv_icmp_ne C.1 C.2.1 hd ht (fun h => kt h H locs ls hP hD hS hl) (fun h => kf h H locs ls hP hD hS hl)
theorem g_icmp_lt (C : cx cI X nL cc own rm) {x y : Int32} {off : Int} {tgt : Nat} (hd : decode cc pc = .ok (.if_icmp .lt off, 3)) (ht : (pc : Int) + off = (tgt : Int)) (kt : x < y → gg cI X nL k n ws lv tgt rest) (kf : ¬ x < y → gg cI X nL k n ws lv (pc + 3) rest) : gg cI X nL k n ws lv pc (.int y :: .int x :: rest) := by
  obtain ⟨p, l, e, R, s, m, args, below, meth, c, Q, D, A⟩ := X
  exact fun H locs ls hP hD hS hl => lv_icmp_lt C.1 C.2.1 hd ht (fun h => kt h H locs ls hP hD hS hl) (fun h => kf h H locs ls hP hD hS hl)
theorem g_icmp_ge (C : cx cI X nL cc own rm) {x y : Int32} {off : Int} {tgt : Nat} (hd : decode cc pc = .ok (.if_icmp .ge off, 3)) (ht : (pc : Int) + off = (tgt : Int)) (kt : y ≤ x → gg cI X nL k n ws lv tgt rest) (kf : ¬ y ≤ x → gg cI X nL k n ws lv (pc + 3) rest) : gg cI X nL k n ws lv pc (.int y :: .int x :: rest) := by
  obtain ⟨p, l, e, R, s, m, args, below, meth, c, Q, D, A⟩ := X
  exact fun H locs ls hP hD hS hl => lv_icmp_ge C.1 C.2.1 hd ht (fun h => kt h H locs ls hP hD hS hl) (fun h => kf h H locs ls hP hD hS hl)
theorem g_icmp_gt (C : cx cI X nL cc own rm) {x y : Int32} {off : Int} {tgt : Nat} (hd : decode cc pc = .ok (.if_icmp .gt off, 3)) (ht : (pc : Int) + off = (tgt : Int)) (kt : y < x → gg cI X nL k n ws lv tgt rest) (kf : ¬ y < x → gg cI X nL k n ws lv (pc + 3) rest) : gg cI X nL k n ws lv pc (.int y :: .int x :: rest) := by
  obtain ⟨p, l, e, R, s, m, args, below, meth, c, Q, D, A⟩ := X
  exact fun H locs ls hP hD hS hl => lv_icmp_gt C.1 C.2.1 hd ht (fun h => kt h H locs ls hP hD hS hl) (fun h => kf h H locs ls hP hD hS hl)
theorem g_icmp_le (C : cx cI X nL cc own rm) {x y : Int32} {off : Int} {tgt : Nat} (hd : decode cc pc = .ok (.if_icmp .le off, 3)) (ht : (pc : Int) + off = (tgt : Int)) (kt : x ≤ y → gg cI X nL k n ws lv tgt rest) (kf : ¬ x ≤ y → gg cI X nL k n ws lv (pc + 3) rest) : gg cI X nL k n ws lv pc (.int y :: .int x :: rest) := by
  obtain ⟨p, l, e, R, s, m, args, below, meth, c, Q, D, A⟩ := X
  exact fun H locs ls hP hD hS hl => lv_icmp_le C.1 C.2.1 hd ht (fun h => kt h H locs ls hP hD hS hl) (fun h => kf h H locs ls hP hD hS hl)
theorem g_tableIn (C : cx cI X nL cc own rm) {dflt lo hi : Int} {offs : Array Int} {len : Nat} {x : Int32} {off : Int} {tgt : Nat} (hd : decode cc pc = .ok (.tableswitch dflt lo hi offs, len)) (h1 : ¬ x.toInt < lo) (h2 : ¬ hi < x.toInt) (ho : offs[(x.toInt - lo).toNat]? = some off) (ht : (pc : Int) + off = (tgt : Int)) (kk : gg cI X nL k n ws lv tgt rest) : gg cI X nL k n ws lv pc (.int x :: rest) := by
  obtain ⟨p, l, e, R, s, m, args, below, meth, c, Q, D, A⟩ := X
  exact fun H locs ls hP hD hS hl => lv_tableIn C.1 C.2.1 hd h1 h2 ho ht (kk H locs ls hP hD hS hl)
theorem g_tableOut (C : cx cI X nL cc own rm) {dflt lo hi : Int} {offs : Array Int} {len : Nat} {x : Int32} {tgt : Nat} (hd : decode cc pc = .ok (.tableswitch dflt lo hi offs, len)) (h : x.toInt < lo ∨ hi < x.toInt) (ht : (pc : Int) + dflt = (tgt : Int)) (kk : gg cI X nL k n ws lv tgt rest) : gg cI X nL k n ws lv pc (.int x :: rest) := by
  obtain ⟨p, l, e, R, s, m, args, below, meth, c, Q, D, A⟩ := X
  exact fun H locs ls hP hD hS hl => lv_tableOut C.1 C.2.1 hd h ht (kk H locs ls hP hD hS hl)
theorem g_lookup (C : cx cI X nL cc own rm) {dflt : Int} {ps : Array (Int × Int)} {len : Nat} {x : Int32} {off : Int} {tgt : Nat} (hd : decode cc pc = .ok (.lookupswitch dflt ps, len)) (hp : (ps.toList.zip (ps.toList.drop 1)).all (fun (a, next) => a.1 < next.1) = true) (ho : Op.lookupswitch.offset ps.toList dflt x.toInt = off) (ht : (pc : Int) + off = (tgt : Int)) (kk : gg cI X nL k n ws lv tgt rest) : gg cI X nL k n ws lv pc (.int x :: rest) := by
  obtain ⟨p, l, e, R, s, m, args, below, meth, c, Q, D, A⟩ := X
  exact fun H locs ls hP hD hS hl => lv_lookup C.1 C.2.1 hd hp ho ht (kk H locs ls hP hD hS hl)
theorem g_sub {lv' : List (Nat × Value)} (ks : List Nat) (h : lv_pick lv ks = lv') {st : List Value} (kk : gg cI X nL k n ws lv' pc st) : gg cI X nL k n ws lv pc st := by
  obtain ⟨p, l, e, R, s, m, args, below, meth, c, Q, D, A⟩ := X
  exact fun H locs ls hP hD hS hl => kk H locs ls hP hD hS (lv_sub hl ks h)
theorem g_get (C : cx cI X nL cc own rm) {idx ci f : Nat} {ty : FieldType} {fin : Bool} (F : fk own idx ci f ty fin) (q0 : Nat) {a : Nat} {fs : List Value} (he : ws[q0]? = some (a, .inr (ci, fs))) {v : Value} (hv : fs[f]? = some v) (hd : decode cc pc = .ok (.getfield idx, 3)) (kk : gg cI X nL k n ws lv (pc + 3) (v :: rest)) : gg cI X nL k n ws lv pc (.ref a :: rest) := by
  obtain ⟨p, l, e, R, s, m, args, below, meth, c, Q, D, A⟩ := X
  obtain ⟨hx, hb, hml, hown, hts, hK, hA, hR, hN⟩ := C
  obtain ⟨C', T, N, ty0, h1, h2, h3, h4, h5, h6, h7, h8⟩ := F
  exact fun H locs ls hP hD hS hl => va_get hx hb hts h2 hown hK hP q0 he h1 f h3 (hts _ h4) (fun _ h9 => h9) hv hd (kk H locs ls hP hD hS hl)
theorem g_put (C : cx cI X nL cc own rm) {idx ci f : Nat} {ty : FieldType} (F : fk own idx ci f ty false) (q0 : Nat) {a : Nat} {fs : List Value} {v : Value} {ws' : va_W} (he : ws[q0]? = some (a, .inr (ci, fs))) (hl0 : f < fs.length) (hn : narrow ty v = v) (hfit : fits ty v = true) (hw : ws.set q0 (a, .inr (ci, fs.set f v)) = ws') (hd : decode cc pc = .ok (.putfield idx, 3)) (kk : gg cI X nL k n ws' lv (pc + 3) rest) : gg cI X nL k n ws lv pc (v :: .ref a :: rest) := by
  obtain ⟨p, l, e, R, s, m, args, below, meth, c, Q, D, A⟩ := X
  obtain ⟨hx, hb, hml, hown, hts, hK, hA, hR, hN⟩ := C
  obtain ⟨C', T, N, ty0, h1, h2, h3, h4, h5, h6, h7, h8, h9⟩ := F
  subst hw
  exact fun H locs ls hP hD hS hl => va_put hx hb hts h2 ty0 h5 h6 hown hK hP hD hS q0 he h1 f h3 (hts _ h4) (fun _ h9 => h9) h8 h7 hn hfit hl0 hd (fun H locs hP hD hS => kk H locs ls hP hD hS hl)
theorem g_putI (C : cx cI X nL cc own rm) {idx ci f : Nat} (F : fk own idx ci f .int false) (q0 : Nat) {a : Nat} {fs : List Value} {v : Int32} {ws' : va_W} (he : ws[q0]? = some (a, .inr (ci, fs))) (hl0 : f < fs.length) (hw : ws.set q0 (a, .inr (ci, fs.set f (.int v))) = ws') (hd : decode cc pc = .ok (.putfield idx, 3)) (kk : gg cI X nL k n ws' lv (pc + 3) rest) : gg cI X nL k n ws lv pc (.int v :: .ref a :: rest) := g_put C F q0 he hl0 rfl rfl hw hd kk
theorem g_putL (C : cx cI X nL cc own rm) {idx ci f : Nat} (F : fk own idx ci f .long false) (q0 : Nat) {a : Nat} {fs : List Value} {v : Int64} {ws' : va_W} (he : ws[q0]? = some (a, .inr (ci, fs))) (hl0 : f < fs.length) (hw : ws.set q0 (a, .inr (ci, fs.set f (.long v))) = ws') (hd : decode cc pc = .ok (.putfield idx, 3)) (kk : gg cI X nL k n ws' lv (pc + 3) rest) : gg cI X nL k n ws lv pc (.long v :: .ref a :: rest) := g_put C F q0 he hl0 rfl rfl hw hd kk
theorem g_putR (C : cx cI X nL cc own rm) {idx ci f : Nat} {ty : FieldType} (F : fk own idx ci f ty false) (q0 : Nat) {a : Nat} {fs : List Value} {v : Nat} {ws' : va_W} (he : ws[q0]? = some (a, .inr (ci, fs))) (hl0 : f < fs.length) (hn : narrow ty (.ref v) = .ref v) (hfit : fits ty (.ref v) = true) (hw : ws.set q0 (a, .inr (ci, fs.set f (.ref v))) = ws') (hd : decode cc pc = .ok (.putfield idx, 3)) (kk : gg cI X nL k n ws' lv (pc + 3) rest) : gg cI X nL k n ws lv pc (.ref v :: .ref a :: rest) := g_put C F q0 he hl0 hn hfit hw hd kk
theorem g_alen (C : cx cI X nL cc own rm) (q0 : Nat) {a N : Nat} {f : Nat → Int32} (ha : ws[q0]? = some (a, .inl (cI, N, .inl f))) {v : Int32} (hv : Int32.ofNat N = v) (hd : decode cc pc = .ok (.arraylength, 1)) (kk : gg cI X nL k n ws lv (pc + 1) (.int v :: rest)) : gg cI X nL k n ws lv pc (.ref a :: rest) := by
  obtain ⟨p, l, e, R, s, m, args, below, meth, c, Q, D, A⟩ := X
  obtain ⟨hx, hb, hml, hown, hts, hK, hA, hR, hN⟩ := C
  exact fun H locs ls hP hD hS hl => va_alen hx hb hK hP q0 0 ha (ty := .int) rfl hv hd (kk H locs ls hP hD hS hl)
theorem g_iald (C : cx cI X nL cc own rm) (q0 : Nat) {a N : Nat} {f : Nat → Int32} (ha : ws[q0]? = some (a, .inl (cI, N, .inl f))) {i : Int32} (hin : vp_in i N) (hd : decode cc pc = .ok (.iaload, 1)) (kk : gg cI X nL k n ws lv (pc + 1) (.int (f i.toNatClampNeg) :: rest)) : gg cI X nL k n ws lv pc (.int i :: .ref a :: rest) := by
  obtain ⟨p, l, e, R, s, m, args, below, meth, c, Q, D, A⟩ := X
  obtain ⟨hx, hb, hml, hown, hts, hK, hA, hR, hN⟩ := C
  exact fun H locs ls hP hD hS hl => va_iald hx hb hK hP q0 0 ha rfl hin hd (kk H locs ls hP hD hS hl)
theorem g_iast (C : cx cI X nL cc own rm) (q0 : Nat) {a N : Nat} {f : Nat → Int32} {ws' : va_W} (ha : ws[q0]? = some (a, .inl (cI, N, .inl f))) {i x : Int32} (hin : vp_in i N) (hw : ws.set q0 (a, .inl (cI, N, .inl (upd f i.toNatClampNeg x))) = ws') (hd : decode cc pc = .ok (.iastore, 1)) (kk : gg cI X nL k n ws' lv (pc + 1) rest) : gg cI X nL k n ws lv pc (.int x :: .int i :: .ref a :: rest) := by
  obtain ⟨p, l, e, R, s, m, args, below, meth, c, Q, D, A⟩ := X
  obtain ⟨hx, hb, hml, hown, hts, hK, hA, hR, hN⟩ := C
  subst hw
  exact fun H locs ls hP hD hS hl => va_iast hx hb hK hP hD hS q0 0 ha rfl hin hd (fun H locs hP hD hS => kk H locs ls hP hD hS hl)
end GG
/-! worlds behind a call; contracts -/
def setM : va_W → List Nat → va_W → va_W
  | ws, i :: is, c :: cs => setM (ws.set i c) is cs
  | ws, _, _ => ws
theorem setM_len : ∀ (is : List Nat) (cs ws : va_W), (setM ws is cs).length = ws.length
  | [], _, ws => by cases ws <;> simp [setM]
  | i :: is, [], ws => by simp [setM]
  | i :: is, c :: cs, ws => by rw [setM, setM_len is cs]; simp
theorem setM_at : ∀ (is : List Nat) (cs ws : va_W), is.length = cs.length → ∀ (k : Nat) (q : Nat × va_E), (setM ws is cs)[k]? = some q → (∃ j : Nat, is[j]? = some k ∧ cs[j]? = some q) ∨ (k ∉ is ∧ ws[k]? = some q)
  | [], cs, ws, hl, k, q, h => by
    cases cs with
    | nil => exact Or.inr ⟨by simp, by simpa [setM] using h⟩
    | cons c cs => simp at hl
  | i :: is, cs, ws, hl, k, q, h => by
    cases cs with
    | nil => simp at hl
    | cons c cs =>
      rw [setM] at h
      rcases setM_at is cs (ws.set i c) (by simpa using hl) k q h with ⟨j, h1, h2⟩ | ⟨h1, h2⟩
      · exact Or.inl ⟨j + 1, by simpa using h1, by simpa using h2⟩
      · by_cases hk : k = i
        · subst hk
          have hlt : k < ws.length := by
            have := (List.getElem?_eq_some_iff.mp h2).1
            simpa using this
          rw [List.getElem?_set_self hlt] at h2
          exact Or.inl ⟨0, rfl, by simpa using h2⟩
        · rw [List.getElem?_set_ne (Ne.symm hk)] at h2
          exact Or.inr ⟨by simp [hk, h1], h2⟩
theorem setM_adr : ∀ (is : List Nat) (cs ws : va_W), (∀ (j i : Nat) (c : Nat × va_E), is[j]? = some i → cs[j]? = some c → (ws.map Prod.fst)[i]? = some c.1) → (setM ws is cs).map Prod.fst = ws.map Prod.fst
  | [], cs, ws, _ => by simp [setM]
  | i :: is, [], ws, _ => by simp [setM]
  | i :: is, c :: cs, ws, h => by
    have h0 := h 0 i c rfl rfl
    have e : (ws.set i c).map Prod.fst = ws.map Prod.fst := by
      rw [List.map_set]
      have hlt := (List.getElem?_eq_some_iff.mp h0)
      obtain ⟨h1, h2⟩ := hlt
      rw [← h2]
      exact List.set_getElem_self h1
    rw [setM, setM_adr is cs (ws.set i c) (fun j i' c' h1 h2 => by rw [e]; exact h (j + 1) i' c' (by simpa using h1) (by simpa using h2)), e]
theorem va_D_adr {A : Nat → Prop} {ws ws' : va_W} (h : ws'.map Prod.fst = ws.map Prod.fst) (hD : va_D A ws) : va_D A ws' := by
  have key : ∀ (k : Nat) (q : Nat × va_E), ws'[k]? = some q → ∃ q0, ws[k]? = some q0 ∧ q0.1 = q.1 := by
    intro k q hk
    have h1 : (ws'.map Prod.fst)[k]? = some q.1 := by rw [List.getElem?_map, hk]; rfl
    rw [h, List.getElem?_map] at h1
    cases hq : ws[k]? with
    | none => rw [hq] at h1; cases h1
    | some q0 => rw [hq] at h1; exact ⟨q0, rfl, Option.some.inj h1⟩
  refine ⟨fun i j x y hi hj hxy => ?_, fun k q hk => ?_⟩
  · obtain ⟨x0, h1, h2⟩ := key i x hi
    obtain ⟨y0, h3, h4⟩ := key j y hj
    exact hD.1 i j x0 y0 h1 h3 (h2.trans (hxy.trans h4.symm))
  · obtain ⟨q0, h1, h2⟩ := key k q hk
    rw [← h2]
    exact hD.2 k q0 h1
/-- behind a call whose world keeps its addresses: the caller's world with the callee's cells put in their places -/
theorem va_put_back {A0 : Nat → Prop} {D : va_G} {cl : List vw_C} {ws wc w1 : va_W} {H H1 : Heap} (hP : va_P D cl ws H) (hD : va_D A0 ws) (isC : List Nat) (hC : isC.map (fun i => ws[i]?) = wc.map some) (hadr : w1.map Prod.fst = wc.map Prod.fst)
    (hk : ∀ q : Nat, q < H.size → ¬ va_A wc H.size q → H1[q]? = H[q]?) (hP1 : va_P D cl w1 H1) : va_P D cl (setM ws isC w1) H1 ∧ va_D A0 (setM ws isC w1) := by
  have hl1 : w1.length = wc.length := by have := congrArg List.length hadr; simpa using this
  have hl2 : isC.length = wc.length := by have := congrArg List.length hC; simpa using this
  have atC : ∀ (j i : Nat), isC[j]? = some i → ∃ c, wc[j]? = some c ∧ ws[i]? = some c := by
    intro j i hj
    have h1 : (isC.map (fun i => ws[i]?))[j]? = some (ws[i]?) := by rw [List.getElem?_map, hj]; rfl
    rw [hC, List.getElem?_map] at h1
    cases hq : wc[j]? with
    | none => rw [hq] at h1; cases h1
    | some c => rw [hq] at h1; exact ⟨c, rfl, (Option.some.inj h1).symm⟩
  have at1 : ∀ (j : Nat) (c : Nat × va_E), w1[j]? = some c → ∃ c0, wc[j]? = some c0 ∧ c0.1 = c.1 := by
    intro j c hj
    have h1 : (w1.map Prod.fst)[j]? = some c.1 := by rw [List.getElem?_map, hj]; rfl
    rw [hadr, List.getElem?_map] at h1
    cases hq : wc[j]? with
    | none => rw [hq] at h1; cases h1
    | some c0 => rw [hq] at h1; exact ⟨c0, rfl, Option.some.inj h1⟩
  refine ⟨fun k q hq => ?_, va_D_adr (setM_adr isC w1 ws fun j i c h1 h2 => ?_) hD⟩
  · rcases setM_at isC w1 ws (hl2.trans hl1.symm) k q hq with ⟨j, h1, h2⟩ | ⟨h1, h2⟩
    · exact hP1 j q h2
    · refine (hP k q h2).kept (hk q.1 (hP k q h2).lt ?_)
      rintro (⟨k2, e, h⟩ | h)
      · have h3 : (isC.map (fun i => ws[i]?))[k2]? = some (some (q.1, e)) := by rw [hC, List.getElem?_map, h]; rfl
        rw [List.getElem?_map] at h3
        cases hi : isC[k2]? with
        | none => rw [hi] at h3; cases h3
        | some i =>
          rw [hi] at h3
          have h4 : ws[i]? = some (q.1, e) := Option.some.inj h3
          have h5 := hD.1 k i q (q.1, e) h2 h4 rfl
          subst h5
          exact h1 (List.mem_of_getElem? hi)
      · exact absurd (hP k q h2).lt (Nat.not_lt.mpr h)
  · obtain ⟨c0, h3, h4⟩ := at1 j c h2
    obtain ⟨c1, h5, h6⟩ := atC j i h1
    rw [h3] at h5
    cases h5
    rw [List.getElem?_map, h6, ← h4]
    rfl
theorem va_P_pl {D : va_G} {cl : List vw_C} {ws wc : va_W} {H : Heap} (hP : va_P D cl ws H) (isC : List Nat) (hC : isC.map (fun i => ws[i]?) = wc.map some) : va_P D cl wc H := fun j q hq => by
  have h1 : (isC.map (fun i => ws[i]?))[j]? = some (some q) := by rw [hC, List.getElem?_map, hq]; rfl
  rw [List.getElem?_map] at h1
  cases hi : isC[j]? with
  | none => rw [hi] at h1; cases h1
  | some i => rw [hi] at h1; exact hP i q (Option.some.inj h1)
theorem nF_blind {U : State} {g : JFrame} {mk : MethodId} {a : Array Value} (h : nF U) : nF (U.calling g mk a) := nF_same rfl h
/-- a contract: from the world w0 the method answers r and leaves the world w1, at the same addresses; nothing else changes, nothing is made -/
def ct (l : Launch) (y : MethodName) (Ts : List Cond) (rm : Room) (D : va_G) (cI : ClassId) (av : List Value) (w0 : va_W) (r : Option Value) (w1 : va_W) : Prop :=
  ∀ sz : Nat, Met l y Ts rm (va_Pc av (fun U => U.heap.size = sz ∧ va_P D vwCl w0 U.heap ∧ va_K D vwCl [(cI, .int)] U ∧ va_D (fun _ => True) w0 ∧ nF U)) (fun _ st oc t => (oc = .returned r ∧ va_P D vwCl w1 t.heap) ∧ va_F (va_A w0 sz) st t) 0 0 (va_A w0 sz)
def ctQ (D : va_G) (r : Option Value) (w0 w1 : va_W) (sz : Nat) : Array Value → State → Outcome → State → Prop := fun _ st oc t => (oc = .returned r ∧ va_P D vwCl w1 t.heap) ∧ va_F (va_A w0 sz) st t
theorem ct_ofX {l : Launch} {y : MethodName} {rm : Room} {D : va_G} {cI : ClassId} {av : List Value} {w0 : va_W} {r : Option Value} {w1 : va_W} {cc : ByteArray} {nL : Nat} {ret : Option FieldType} {own : String} {ic : Nat → Bool}
    (hy : plainName y.cls = true) (ho : y.cls = own) (hn : (lg_sl av).length ≤ nL)
    (body : ∀ X : xT, cx cI X nL cc own rm → X.1.tables.exec = Jvm.exec → xD X = D → (∀ (p : Program) (l : Launch) (e : Env) (s : State) (m : MethodId) (args : Array Value) (below : List Frame) (meth : Method) (c : Code) (A : Nat → Prop), X = (p, l, e, rm, s, m, args, below, meth, c, MQ below (ctQ D r w0 w1 s.heap.size) args s 0 0 A, D, A) → meth.sig.returnType = ret → meth.locks = false → A = va_A w0 s.heap.size → gg cI X nL 0 0 w0 (lv_args 0 av) 0 [])) : ct l y (.code y cc nL ret :: gtb) rm D cI av w0 r w1 := by
  intro sz
  refine Met.ofW (cc := cc) (maxL := nL) (ret := ret) hy rfl ?_
  intro p e s m args below meth c s₁ B hml hv
  obtain ⟨rfl, hsz, hP, hK, hD0, hN⟩ := hv
  subst hsz
  have hts := atoms_spec (ws := .code y cc nL ret :: gtb) B.pre
  have hown : s.vm.findClass own = some m.cls := by rw [← ho]; exact findClass_of_methodNamed B.named
  have hl := lv_entry av (n := nL) hn
  rw [lg_entry_eq]
  generalize hls : (lg_sl av ++ List.replicate (nL - (lg_sl av).length) Slot.unset).toArray = ls at hl
  have C0 : cx cI (p, l, e, rm, s, m, av.toArray, below, meth, c, MQ below (ctQ D r w0 w1 s.heap.size) av.toArray s 0 0 (va_A w0 s.heap.size), D, va_A w0 s.heap.size) nL cc own rm :=
    ⟨B.exec, B.bytes, hml, hown, fun w h => hts w (List.mem_cons_of_mem _ h), hK, fun q h => Or.inr h, rfl, hN⟩
  exact body _ C0 B.exec rfl p l e s m av.toArray below meth c _ rfl B.returns B.notSynchronized rfl s.heap [] ls hP (hD0.self) va_S.rf hl
theorem ct_ofI {l : Launch} {y : MethodName} {rm : Room} {D : va_G} {cI : ClassId} {av : List Value} {w0 : va_W} {v : Int32} {w1 : va_W} {cc : ByteArray} {nL : Nat} {own : String}
    (hy : plainName y.cls = true) (ho : y.cls = own) (hn : (lg_sl av).length ≤ nL)
    (body : ∀ X : xT, cx cI X nL cc own rm → xD X = D → (∀ (lv : List (Nat × Value)) (pc : Nat), decode cc pc = .ok (.ireturn, 1) → gg cI X nL 0 0 w1 lv pc [.int v]) → gg cI X nL 0 0 w0 (lv_args 0 av) 0 []) : ct l y (.code y cc nL (some .int) :: gtb) rm D cI av w0 (some (.int v)) w1 := by
  refine ct_ofX (ic := fun _ => true) hy ho hn ?_
  intro X C hx hDX p l e s m args below meth c A hX hr hlocks hA
  refine body X C hDX ?_
  intro lv pc hd
  subst hX
  intro H locs ls hP hD hS hl
  exact W.iret C.1 C.2.1 hr (fun t ht hW => ⟨⟨rfl, by rw [ht]; exact hP⟩, by rw [← hA]; exact hS.F ht⟩) hS.2.2 hd hlocks
theorem ct_ofZ {l : Launch} {y : MethodName} {rm : Room} {D : va_G} {cI : ClassId} {av : List Value} {w0 : va_W} {v : Int32} {w1 : va_W} {cc : ByteArray} {nL : Nat} {own : String}
    (hy : plainName y.cls = true) (ho : y.cls = own) (hn : (lg_sl av).length ≤ nL)
    (body : ∀ X : xT, cx cI X nL cc own rm → xD X = D → (∀ (lv : List (Nat × Value)) (pc : Nat), (v = 0 ∨ v = 1) → decode cc pc = .ok (.ireturn, 1) → gg cI X nL 0 0 w1 lv pc [.int v]) → gg cI X nL 0 0 w0 (lv_args 0 av) 0 []) : ct l y (.code y cc nL (some .boolean) :: gtb) rm D cI av w0 (some (.int v)) w1 := by
  refine ct_ofX (ic := fun _ => true) hy ho hn ?_
  intro X C hx hDX p l e s m args below meth c A hX hr hlocks hA
  refine body X C hDX ?_
  intro lv pc hv hd
  subst hX
  intro H locs ls hP hD hS hl
  exact W.zret C.1 C.2.1 hr (by rcases hv with rfl | rfl <;> rfl) (fun t ht hW => ⟨⟨rfl, by rw [ht]; exact hP⟩, by rw [← hA]; exact hS.F ht⟩) hS.2.2 hd hlocks
theorem ct_ofL {l : Launch} {y : MethodName} {rm : Room} {D : va_G} {cI : ClassId} {av : List Value} {w0 : va_W} {v : Int64} {w1 : va_W} {cc : ByteArray} {nL : Nat} {own : String}
    (hy : plainName y.cls = true) (ho : y.cls = own) (hn : (lg_sl av).length ≤ nL)
    (body : ∀ X : xT, cx cI X nL cc own rm → xD X = D → (∀ (lv : List (Nat × Value)) (pc : Nat), decode cc pc = .ok (.lreturn, 1) → gg cI X nL 0 0 w1 lv pc [.long v]) → gg cI X nL 0 0 w0 (lv_args 0 av) 0 []) : ct l y (.code y cc nL (some .long) :: gtb) rm D cI av w0 (some (.long v)) w1 := by
  refine ct_ofX (ic := fun _ => true) hy ho hn ?_
  intro X C hx hDX p l e s m args below meth c A hX hr hlocks hA
  refine body X C hDX ?_
  intro lv pc hd
  subst hX
  intro H locs ls hP hD hS hl
  exact W.lret C.1 C.2.1 hr (fun t ht hW => ⟨⟨rfl, by rw [ht]; exact hP⟩, by rw [← hA]; exact hS.F ht⟩) hS.2.2 hd hlocks
theorem ct_ofV {l : Launch} {y : MethodName} {rm : Room} {D : va_G} {cI : ClassId} {av : List Value} {w0 : va_W} {w1 : va_W} {cc : ByteArray} {nL : Nat} {own : String}
    (hy : plainName y.cls = true) (ho : y.cls = own) (hn : (lg_sl av).length ≤ nL)
    (body : ∀ X : xT, cx cI X nL cc own rm → xD X = D → (∀ (lv : List (Nat × Value)) (pc : Nat), decode cc pc = .ok (.return_, 1) → gg cI X nL 0 0 w1 lv pc []) → gg cI X nL 0 0 w0 (lv_args 0 av) 0 []) : ct l y (.code y cc nL none :: gtb) rm D cI av w0 none w1 := by
  refine ct_ofX (ic := fun _ => true) hy ho hn ?_
  intro X C hx hDX p l e s m args below meth c A hX hr hlocks hA
  refine body X C hDX ?_
  intro lv pc hd
  subst hX
  intro H locs ls hP hD hS hl
  exact W.vret C.1 C.2.1 hr (fun t ht hW => ⟨⟨rfl, by rw [ht]; exact hP⟩, by rw [← hA]; exact hS.F ht⟩) hS.2.2 hd hlocks
section GC
variable {cI : ClassId} {X : xT} {nL k n : Nat} {cc : ByteArray} {own : String} {rm : Room} {ws : va_W} {lv : List (Nat × Value)} {pc : Nat} {rest : List Value}
theorem ct_blind {sz : Nat} {av : List Value} {D : va_G} {w0 : va_W} : FrameBlind (va_Pc av (fun U => U.heap.size = sz ∧ va_P D vwCl w0 U.heap ∧ va_K D vwCl [(cI, .int)] U ∧ va_D (fun _ => True) w0 ∧ nF U)) :=
  fun a U g mk q => by obtain ⟨q0, q1, qP, qK, qD, qN⟩ := q; exact ⟨q0, q1, qP, va_K.moved (u := U) (U := U.calling g mk a) (Vm.Alike.refl U.vm) qK, qD, nF_blind qN⟩
/-- a call behind its run -/
theorem g_ran {p : Program} {l : Launch} {e : Env} {R : Room} {s : State} {m : MethodId} {args : Array Value} {below : List Frame} {meth : Method} {c : Code} {Q : State → Prop} {D : va_G} {A : Nat → Prop} {wc w1 : va_W} {r : Option Value} (isC : List Nat) {a : Array Value} {H : Heap} {locs : List Loc} {ls : Array Slot} {st0 : List Value}
    (hr : va_Run p l e R s m args below meth c H locs k n 0 0 (F0 m pc ls st0) rest ((fun _ st oc t => (oc = .returned r ∧ va_P D vwCl w1 t.heap) ∧ va_F (va_A wc H.size) st t : Array Value → State → Outcome → State → Prop) a) (va_A wc H.size))
    (hA : ∀ q, s.heap.size ≤ q → A q) (hP : va_P D vwCl ws H) (hD : va_D A ws) (hS : va_S A s.heap H locs) (hl : lv_has ls nL lv) (hC : isC.map (fun i => ws[i]?) = wc.map some) (hadr : w1.map Prod.fst = wc.map Prod.fst) {ws' : va_W} (hw : setM ws isC w1 = ws')
    (kk : gg cI (p, l, e, R, s, m, args, below, meth, c, Q, D, A) nL k n ws' lv (pc + 3) (r.toList ++ rest)) : W p l e R s m args below meth c H locs k n Q (F0 m pc ls st0) := by
  intro T hT X
  obtain ⟨v, st₀, t, T', L, h0, X', hL, e1, e2, ⟨⟨hv, hP1⟩, hz, hk⟩, st⟩ := hr T hT X
  cases hv
  rw [h0] at hz hk
  have hF := va_free (wc := wc) hD hS hA isC hC
  obtain ⟨hP2, hD2⟩ := va_put_back hP hD isC hC hadr (fun q h1 h2 => hk q h1 h2) hP1
  rw [hw] at hP2 hD2
  have hS2 : va_S A s.heap T'.heap (locs ++ L) := ⟨Nat.le_trans hS.1 (by rw [e1]; exact hz), fun q h1 h2 => by rw [e1, hk q (Nat.lt_of_lt_of_le h1 hS.1) (fun z => h2 (hF q z))]; exact hS.2.1 q h1 h2, fun q hq => by
      rcases List.mem_append.mp hq with h | h
      · exact hS.2.2 q h
      · exact hF _ (hL q h)⟩
  obtain ⟨t2, a1, b1⟩ := kk T'.heap (locs ++ L) ls (by rw [e1]; exact hP2) hD2 hS2 hl T' rfl X'
  exact ⟨t2, st t2 a1, b1⟩
theorem g_callV (C : cx cI X nL cc own rm) {idx nA ci : Nat} {Cn : String} {y : MethodName} (V : vk own idx Cn y nA) {bytes : ByteArray} {maxL : Nat} {ret : Option FieldType} (K : Cond.code y bytes maxL ret ∈ gtb) {rc : Room} {a : Nat} (As : List Value) {wc w1 : va_W} {r : Option Value}
    (hM : ∀ (l : Launch) (D : va_G), ct l y (.code y bytes maxL ret :: gtb) rc D cI (.ref a :: As) wc r w1) (hR : (rc.cells = 0 ∧ rc.slots = 0) ∧ rc.frames + 1 ≤ rm.frames ∧ 8 + (maxL + 11) + rc.locals ≤ rm.locals) (q0 : Nat) {fs : List Value} (he : ws[q0]? = some (a, .inr (ci, fs))) {T : u_T} {N : Nat} (hcl : vwCl[ci]? = some (Cn, T, N)) (hnA : As.length = nA)
    (isC : List Nat) (hnd : va_nd isC = true) (hC : isC.map (fun i => ws[i]?) = wc.map some) (hadr : w1.map Prod.fst = wc.map Prod.fst) {ws' : va_W} (hw : setM ws isC w1 = ws') {st : List Value} (hst : st = As.reverse ++ .ref a :: rest) (hroom : (rest.map fun v => v.category).sum ≤ 8) (hk : k ≤ rm.cells) (hn : n ≤ rm.slots) {st' : List Value} (hst' : r.toList ++ rest = st') (hd : decode cc pc = .ok (.invokevirtual idx, 3))
    (kk : gg cI X nL k n ws' lv (pc + 3) st') : gg cI X nL k n ws lv pc st := by
  obtain ⟨p, l, e, R, s, m, args, below, meth, c, Q, D, A⟩ := X
  obtain ⟨hx, hb, hml, hown, hts, hK, hA, rfl, hN⟩ := C
  obtain ⟨v1, v2, v3, v4, v5, v6, v7, v8⟩ := V
  subst hst
  subst hst'
  intro H locs ls hP hD hS hl
  have cb : CallB R s args own idx y bytes maxL ret (.code y bytes maxL ret :: gtb) rc 0 0 nA := callB_of nA hts (gtb_in K) rfl hR.1.1 hR.1.2 (hts _ (by rw [v5]; exact v4)) (hts _ v1) ⟨v6, v7, v8⟩ hR.2
  have PV : PreV s H Cn a (va_Pc (.ref a :: As) (fun U => U.heap.size = H.size ∧ va_P D vwCl wc U.heap ∧ va_K D vwCl [(cI, .int)] U ∧ va_D (fun _ => True) wc ∧ nF U)) As := by
    exact ⟨ct_blind, va_recv hK hP hcl he, fun U hU hW => ⟨rfl, by rw [hU], by rw [hU]; exact va_P_pl hP isC hC, va_K.moved hW.alike hK, (hD.sub isC hnd hC).weaken (fun _ _ _ _ => trivial), nF_warm hW hN⟩⟩
  refine g_ran (a := (Value.ref a :: As).toArray) isC (va_runV (As := As) (rest := rest) (C := Cn) ⟨hx, hb, hml, hown, hts⟩ (hM l D H.size) ⟨cb, hts _ v2, hts _ v3⟩ PV rfl hnA hl.1 rfl (lv_room hroom) hd ⟨hk, hn⟩) hA hP hD hS hl hC hadr hw kk
theorem g_callS (C : cx cI X nL cc own rm) {idx nA : Nat} {y : MethodName} (V : sk own idx y nA) {bytes : ByteArray} {maxL : Nat} {ret : Option FieldType} (K : Cond.code y bytes maxL ret ∈ gtb) {rc : Room} (As : List Value) {wc w1 : va_W} {r : Option Value}
    (hM : ∀ (l : Launch) (D : va_G), ct l y (.code y bytes maxL ret :: gtb) rc D cI As wc r w1) (hR : (rc.cells = 0 ∧ rc.slots = 0) ∧ rc.frames + 1 ≤ rm.frames ∧ 8 + (maxL + 11) + rc.locals ≤ rm.locals) (hnA : As.length = nA)
    (isC : List Nat) (hnd : va_nd isC = true) (hC : isC.map (fun i => ws[i]?) = wc.map some) (hadr : w1.map Prod.fst = wc.map Prod.fst) {ws' : va_W} (hw : setM ws isC w1 = ws') {st : List Value} (hst : st = As.reverse ++ rest) (hroom : (rest.map fun v => v.category).sum ≤ 8) (hk : k ≤ rm.cells) (hn : n ≤ rm.slots) {st' : List Value} (hst' : r.toList ++ rest = st') (hd : decode cc pc = .ok (.invokestatic idx, 3))
    (kk : gg cI X nL k n ws' lv (pc + 3) st') : gg cI X nL k n ws lv pc st := by
  obtain ⟨p, l, e, R, s, m, args, below, meth, c, Q, D, A⟩ := X
  obtain ⟨hx, hb, hml, hown, hts, hK, hA, rfl, hN⟩ := C
  obtain ⟨v1, v2, v3, v6, v7, v8⟩ := V
  subst hst
  subst hst'
  intro H locs ls hP hD hS hl
  have cb : CallB R s args own idx y bytes maxL ret (.code y bytes maxL ret :: gtb) rc 0 0 nA := callB_of nA hts (gtb_in K) rfl hR.1.1 hR.1.2 (hts _ v3) (hts _ v1) ⟨v6, v7, v8⟩ hR.2
  have PV : PreS s H (va_Pc As (fun U => U.heap.size = H.size ∧ va_P D vwCl wc U.heap ∧ va_K D vwCl [(cI, .int)] U ∧ va_D (fun _ => True) wc ∧ nF U)) As := by
    exact ⟨ct_blind, fun U hU hW => ⟨rfl, by rw [hU], by rw [hU]; exact va_P_pl hP isC hC, va_K.moved hW.alike hK, (hD.sub isC hnd hC).weaken (fun _ _ _ _ => trivial), nF_warm hW hN⟩⟩
  refine g_ran (a := As.toArray) isC (va_runS (As := As) (rest := rest) ⟨hx, hb, hml, hown, hts⟩ (hM l D H.size) ⟨cb, hts _ v2⟩ PV rfl hnA hl.1 rfl (lv_room hroom) hd ⟨hk, hn⟩) hA hP hD hS hl hC hadr hw kk
/-- Math.min -/
theorem g_min (C : cx cI X nL cc own rm) {idx : Nat} (h1 : Cond.methodLink own idx Lib.Math.min.name ∈ gtb) (h2 : Cond.static Lib.Math.min.name ∈ gtb) (h3 : Cond.initialized "java/lang/Math" ∈ gtb) (h4 : Cond.code Lib.Math.min.name Lib.Math.min.code 2 (some .int) ∈ gtb) (hf : 1 ≤ rm.frames) (hroom : (rest.map fun v => v.category).sum + 13 ≤ rm.locals) (hk : k ≤ rm.cells) (hn : n ≤ rm.slots) {x y : Int32} (hd : decode cc pc = .ok (.invokestatic idx, 3)) (kk : gg cI X nL k n ws lv (pc + 3) (.int (if y < x then y else x) :: rest)) : gg cI X nL k n ws lv pc (.int y :: .int x :: rest) := by
  obtain ⟨p, l, e, R, s, m, args, below, meth, c, Q, D, A⟩ := X
  obtain ⟨hx, hb, hml, hown, hts, hK, hA, rfl, hN⟩ := C
  exact fun H locs ls hP hD hS hl => va_mmin hx hb (hml.trans hl.1.symm) hown (hts _ h1) (hts _ h2) (hts _ h3) (hts _ h4) hf hroom hk hn hd (kk H locs ls hP hD hS hl)
/-- System.arraycopy of int arrays; the premises are one boolean -/
def cpOk (sp dp nn : Int32) (n0 n1 : Nat) : Bool := decide (¬ sp < 0) && decide (¬ dp < 0) && decide (¬ nn < 0) && decide (sp.toNatClampNeg + nn.toNatClampNeg ≤ n0) && decide (dp.toNatClampNeg + nn.toNatClampNeg ≤ n1)
theorem cpOk_of {sp dp nn : Int32} {n0 n1 : Nat} (h : cpOk sp dp nn n0 n1 = true) : ((((¬ sp < 0) ∧ ¬ dp < 0) ∧ ¬ nn < 0) ∧ sp.toNatClampNeg + nn.toNatClampNeg ≤ n0) ∧ dp.toNatClampNeg + nn.toNatClampNeg ≤ n1 := by
  simpa only [cpOk, Bool.and_eq_true, decide_eq_true_eq] using h
theorem g_copy (C : cx cI X nL cc own rm) {idx : Nat} (w1 : Cond.methodLink own idx arraycopyName ∈ gtb) (w2 : Cond.native arraycopyName ∈ gtb) (w3 : Cond.static arraycopyName ∈ gtb) (w4 : Cond.initialized "java/lang/System" ∈ gtb) (q0 q1 : Nat) {a a0 n0 n1 : Nat} {f g : Nat → Int32} (ha0 : ws[q0]? = some (a0, .inl (cI, n0, .inl f))) (ha1 : ws[q1]? = some (a, .inl (cI, n1, .inl g))) {sp dp nn : Int32} (ok : cpOk sp dp nn n0 n1 = true)
    (hf : 1 ≤ rm.frames) (hroom : (rest.map fun v => v.category).sum + (nativeFrameWords "java/lang/System" "arraycopy" 5 + 11) ≤ rm.locals) {ws' : va_W} (hw : ws.set q1 (a, .inl (cI, n1, .inl (va_cpy f g sp.toNatClampNeg dp.toNatClampNeg nn.toNatClampNeg))) = ws') (hd : decode cc pc = .ok (.invokestatic idx, 3))
    (kk : gg cI X nL k n ws' lv (pc + 3) rest) : gg cI X nL k n ws lv pc (.int nn :: .int dp :: .ref a :: .int sp :: .ref a0 :: rest) := by
  obtain ⟨p, l, e, R, s, m, args, below, meth, c, Q, D, A⟩ := X
  obtain ⟨hx, hb, hml, hown, hts, hK, hA, rfl, hN⟩ := C
  obtain ⟨⟨⟨⟨o1, o2⟩, o3⟩, o4⟩, o5⟩ := cpOk_of ok
  subst hw
  exact fun H locs ls hP hD hS hl => va_copyi hx hb (hml.trans hl.1.symm) hown (hts _ w1) (hts _ w2) (hts _ w3) (hts _ w4) hK hP hD hS q0 q1 0 0 ha0 ha1 (ty := .int) rfl rfl rfl o1 o2 o3 o4 o5 (fun _ _ => rfl) hf hroom hd (fun H locs hP hD hS => kk H locs ls hP hD hS hl)
/-- a field of a nest mate: Scene.cells out of Shelf -/
theorem g_getN (C : cx cI X nL cc RX7 rm) (q0 : Nat) {a : Nat} {fs : List Value} (he : ws[q0]? = some (a, .inr (4, fs))) {v : Value} (hv : fs[0]? = some v) (hd : decode cc pc = .ok (.getfield 28, 3)) (kk : gg cI X nL k n ws lv (pc + 3) (v :: rest)) : gg cI X nL k n ws lv pc (.ref a :: rest) := by
  obtain ⟨p, l, e, R, s, m, args, below, meth, c, Q, D, A⟩ := X
  obtain ⟨hx, hb, hml, hown, hts, hK, hA, hR, hN⟩ := C
  obtain ⟨C', T, N, ty0, h1, h2, h3, h4, h5, h6, h7, h8⟩ := fX4_cells
  have e1 : (RX4, TX4, 1) = (C', T, N) := Option.some.inj ((show vwCl[4]? = some (RX4, TX4, 1) from rfl).symm.trans h1)
  cases e1
  exact fun H locs ls hP hD hS hl => va_getN (T := TX4) (C := RX4) (N := 1) (ci := 4) (ref := RX4) (host := "CharadePost") hx hb hts h2 hown hK hP q0 he rfl 0 h3 (va_Nw.use rfl hN.1) (fun _ h9 => h9) hv hd (kk H locs ls hP hD hS hl)
end GC
/-! the words of the specs -/
def vlet {α β : Type} (x : α) (f : α → Option β) : Option β := f x
def vb {α β : Type} (x : Option α) (f : α → Option β) : Option β := match x with
  | none => none
  | some a => f a
def vg {β : Type} (b : Bool) (x : Option β) : Option β := match b with
  | true => x
  | false => none
def vi {β : Type} (c : Prop) (ic : Decidable c) (x y : Option β) : Option β := @ite _ c ic x y
def vin (i : Int32) (n : Nat) : Bool := decide (0 ≤ i) && decide (i.toNatClampNeg < n)
def vz (x : Int32) : Bool := decide (x = 0) || decide (x = 1)
def vF : Nat := 20000
theorem vlet_ok {α β : Type} {x : α} {f : α → Option β} {z : β} (h : vlet x f = some z) : f x = some z := h
theorem vlet_ex {α β : Type} {x : α} {f : α → Option β} {z : β} (h : vlet x f = some z) : ∃ y, y = x ∧ f y = some z := ⟨x, rfl, h⟩
theorem vb_ok {α β : Type} {x : Option α} {f : α → Option β} {z : β} (h : vb x f = some z) : ∃ a, x = some a ∧ f a = some z := by
  cases x with
  | none => cases h
  | some a => exact ⟨a, rfl, h⟩
theorem vg_ok {β : Type} {b : Bool} {x : Option β} {z : β} (h : vg b x = some z) : b = true ∧ x = some z := by
  cases b with
  | false => cases h
  | true => exact ⟨rfl, h⟩
theorem vi_t {β : Type} {c : Prop} {ic : Decidable c} {x y : Option β} {z : β} (h : vi c ic x y = some z) (hc : c) : x = some z := by
  unfold vi at h
  rw [if_pos hc] at h
  exact h
theorem vi_f {β : Type} {c : Prop} {ic : Decidable c} {x y : Option β} {z : β} (h : vi c ic x y = some z) (hc : ¬ c) : y = some z := by
  unfold vi at h
  rw [if_neg hc] at h
  exact h
theorem vin_ok {i : Int32} {n : Nat} (h : vin i n = true) : vp_in i n := by
  simp only [vin, Bool.and_eq_true, decide_eq_true_eq] at h
  rintro (h1 | h1)
  · exact absurd h.1 (Int32.not_le.mpr h1)
  · omega
theorem vz_ok {x : Int32} (h : vz x = true) : x = 0 ∨ x = 1 := by
  simpa only [vz, Bool.or_eq_true, decide_eq_true_eq] using h
/-! constructors: what is made -/
def mN (X : xT) : String := X.2.2.2.2.2.2.2.2.1.name
def nk (own : String) (idx ci N : Nat) (fs : List Value) : Prop := ∃ (C : String) (T : u_T) (ty0 : Nat → FieldType), vwCl[ci]? = some (C, T, N) ∧ (∀ w ∈ u_ws C T N, w ∈ gtb) ∧ (∀ k, k < N → parseFieldDescriptor (T k).2.2.1 = some (ty0 k)) ∧ Cond.classLink own idx C ∈ gtb ∧ Cond.instantiable C N ∈ gtb ∧ Cond.initialized C ∈ gtb ∧ ∀ j, j < N → defaultValue (ty0 j) = vp_V fs j
def ctN (l : Launch) (y : MethodName) (Ts : List Cond) (rm : Room) (D : va_G) (cI : ClassId) (E : (Nat → Prop) → State → Prop) (av : List Value) (w0 : va_W) (mc ms : Nat) (P : va_W → Prop) : Prop :=
  ∀ sz : Nat, Met l y Ts rm (va_Pc av (fun U => U.heap.size = sz ∧ va_P D vwCl w0 U.heap ∧ va_K D vwCl [(cI, .int)] U ∧ va_D (fun _ => True) w0 ∧ nF U ∧ E (va_A w0 sz) U)) (fun _ st oc t => (oc = .returned none ∧ ∃ w1, P w1 ∧ va_P D vwCl w1 t.heap ∧ va_D (va_A w0 sz) w1) ∧ va_F (va_A w0 sz) st t) mc ms (va_A w0 sz)
def ctNQ (D : va_G) (w0 : va_W) (P : va_W → Prop) (sz : Nat) : Array Value → State → Outcome → State → Prop := fun _ st oc t => (oc = .returned none ∧ ∃ w1, P w1 ∧ va_P D vwCl w1 t.heap ∧ va_D (va_A w0 sz) w1) ∧ va_F (va_A w0 sz) st t
def xE (E : (Nat → Prop) → State → Prop) (X : xT) : Prop := match X with
  | (p, l, e, R, s, m, args, below, meth, c, Q, D, A) => E A s
theorem ct_ofN {l : Launch} {y : MethodName} {rm : Room} {D : va_G} {cI : ClassId} {E : (Nat → Prop) → State → Prop} {av : List Value} {w0 : va_W} {mc ms : Nat} {P : va_W → Prop} {cc : ByteArray} {nL : Nat} {own : String}
    (hy : plainName y.cls = true) (ho : y.cls = own) (hyn : y.name = "<init>") (hn : (lg_sl av).length ≤ nL)
    (body : ∀ X : xT, cx cI X nL cc own rm → xD X = D → mN X = "<init>" → xE E X → (∀ (w1 : va_W) (lv : List (Nat × Value)) (pc : Nat), P w1 → decode cc pc = .ok (.return_, 1) → gg cI X nL mc ms w1 lv pc []) → gg cI X nL 0 0 w0 (lv_args 0 av) 0 []) : ctN l y (.code y cc nL none :: gtb) rm D cI E av w0 mc ms P := by
  intro sz
  refine Met.ofW (cc := cc) (maxL := nL) (ret := none) hy rfl ?_
  intro p e s m args below meth c s₁ B hml hv
  obtain ⟨rfl, hsz, hP, hK, hD0, hN, hE⟩ := hv
  subst hsz
  have hts := atoms_spec (ws := .code y cc nL none :: gtb) B.pre
  have hown : s.vm.findClass own = some m.cls := by rw [← ho]; exact findClass_of_methodNamed B.named
  have hl := lv_entry av (n := nL) hn
  rw [lg_entry_eq]
  generalize hls : (lg_sl av ++ List.replicate (nL - (lg_sl av).length) Slot.unset).toArray = ls at hl
  have C0 : cx cI (p, l, e, rm, s, m, av.toArray, below, meth, c, MQ below (ctNQ D w0 P s.heap.size) av.toArray s mc ms (va_A w0 s.heap.size), D, va_A w0 s.heap.size) nL cc own rm :=
    ⟨B.exec, B.bytes, hml, hown, fun w h => hts w (List.mem_cons_of_mem _ h), hK, fun q h => Or.inr h, rfl, hN⟩
  have hin : meth.name = "<init>" := by rw [(name_of_methodNamed B.named B.method).1]; exact hyn
  refine body _ C0 rfl hin hE ?_ s.heap [] ls hP (hD0.self) va_S.rf hl
  intro w1 lv pc hP1 hd H locs ls hP hD hS hl
  exact W.vret C0.1 C0.2.1 B.returns (fun t ht hW => ⟨⟨rfl, w1, hP1, by rw [ht]; exact hP, hD⟩, hS.F ht⟩) hS.2.2 hd B.notSynchronized
section NEWS
variable {cI : ClassId} {X : xT} {nL k n : Nat} {cc : ByteArray} {own : String} {rm : Room} {ws : va_W} {lv : List (Nat × Value)} {pc : Nat} {rest : List Value}
theorem g_new (C : cx cI X nL cc own rm) {idx ci N : Nat} {fs : List Value} (F : nk own idx ci N fs) (hk : k + 1 ≤ rm.cells) (hn : n + N ≤ rm.slots) (hd : decode cc pc = .ok (.new idx, 3)) (kk : ∀ q : Nat, gg cI X nL (k + 1) (n + N) (ws ++ [(q, .inr (ci, fs))]) lv (pc + 3) (.ref q :: rest)) : gg cI X nL k n ws lv pc rest := by
  obtain ⟨p, l, e, R, s, m, args, below, meth, c, Q, D, A⟩ := X
  obtain ⟨hx, hb, hml, hown, hts, hK, hA, rfl, hN⟩ := C
  obtain ⟨C', T, ty0, h1, h2, h3, h4, h5, h6, h7⟩ := F
  exact fun H locs ls hP hD hS hl => va_new hx hb hts h2 ty0 h3 hown (hts _ h4) (hts _ h5) (hts _ h6) hK hP hD hS hA h1 h7 hk hn hd (fun q H1 hP hD hS => kk q H1 locs ls hP hD hS hl)
theorem g_newa (C : cx cI X nL cc own rm) (hw : Cond.arrayClass .int ∈ gtb) {z : Int32} {N : Nat} (hz : ¬ z < 0) (hN : z.toNatClampNeg = N) (hb4 : N * 4 ≤ 536870912) (hk : k + 1 ≤ rm.cells) (hn : n + N ≤ rm.slots) (hd : decode cc pc = .ok (.newarray .int, 2)) (kk : ∀ q : Nat, gg cI X nL (k + 1) (n + N) (ws ++ [(q, .inl (cI, N, .inl (fun _ => 0)))]) lv (pc + 2) (.ref q :: rest)) : gg cI X nL k n ws lv pc (.int z :: rest) := by
  obtain ⟨p, l, e, R, s, m, args, below, meth, c, Q, D, A⟩ := X
  obtain ⟨hx, hb, hml, hown, hts, hK, hA, rfl, hNn⟩ := C
  refine fun H locs ls hP hD hS hl => va_newa (atype := .int) (ty := .int) (a0 := (N, .inl (fun _ => 0))) hx hb (hts _ hw) rfl hK hP hD hS hA (fun _ => rfl) hz hN hb4 hk hn hd (fun q cA H1 hK1 hP hD hS => ?_)
  have e1 : s.vm.findClass ("[" ++ (FieldType.int).toString) = some cI := (hK.2 0 (cI, .int) rfl).2
  have e2 : s.vm.findClass ("[" ++ (FieldType.int).toString) = some cA := (hK1.2 1 (cA, .int) rfl).2
  have e3 : cA = cI := Option.some.inj (e2.symm.trans e1)
  subst e3
  exact kk q H1 locs ls hP hD hS hl
theorem g_putF (C : cx cI X nL cc own rm) (hm : mN X = "<init>") {idx ci f : Nat} {ty : FieldType} (F : fk own idx ci f ty true) (hc : ∃ (T : u_T) (N : Nat), vwCl[ci]? = some (own, T, N)) (q0 : Nat) {a : Nat} {fs : List Value} {v : Value} {ws' : va_W} (he : ws[q0]? = some (a, .inr (ci, fs))) (hl0 : f < fs.length) (hn : narrow ty v = v) (hfit : fits ty v = true) (hw : ws.set q0 (a, .inr (ci, fs.set f v)) = ws') (hd : decode cc pc = .ok (.putfield idx, 3)) (kk : gg cI X nL k n ws' lv (pc + 3) rest) : gg cI X nL k n ws lv pc (v :: .ref a :: rest) := by
  obtain ⟨p, l, e, R, s, m, args, below, meth, c, Q, D, A⟩ := X
  obtain ⟨hx, hb, hml, hown, hts, hK, hA, hR, hN⟩ := C
  obtain ⟨C', T, N, ty0, h1, h2, h3, h4, h5, h6, h7, h8, h9⟩ := F
  obtain ⟨T', N', hc⟩ := hc
  have ec : C' = own := by
    have e9 := Option.some.inj (h1.symm.trans hc)
    exact congrArg Prod.fst e9
  subst hw
  exact fun H locs ls hP hD hS hl => va_putF hx hb hts h2 ty0 h5 h6 hown hK hP hD hS q0 he h1 f h3 (hts _ h4) (fun _ h9 => h9) h8 hm (h9.trans ec) h7 hn hfit hl0 hd (fun H locs hP hD hS => kk H locs ls hP hD hS hl)
theorem g_objInit (C : cx cI X nL cc own rm) {idx a : Nat} (w1 : Cond.methodLink own idx objectInit ∈ gtb) (w2 : Cond.instanceMethod objectInit ∈ gtb) (w3 : Cond.code objectInit ⟨#[0xb1]⟩ 1 none ∈ gtb) (hf : 1 ≤ rm.frames) (hroom : (rest.map fun v => v.category).sum + 12 ≤ rm.locals) (hd : decode cc pc = .ok (.invokespecial idx, 3)) (kk : gg cI X nL k n ws lv (pc + 3) rest) : gg cI X nL k n ws lv pc (.ref a :: rest) := by
  obtain ⟨p, l, e, R, s, m, args, below, meth, c, Q, D, A⟩ := X
  obtain ⟨hx, hb, hml, hown, hts, hK, hA, rfl, hN⟩ := C
  exact fun H locs ls hP hD hS hl => W.objInit hx hb hown (hts _ w1) (hts _ w2) (hts _ w3) rfl (by rw [hml]; exact hl.1) rfl hd hf (by show 2 * 0 + _ + 12 ≤ _; omega) (kk H locs ls hP hD hS hl)
theorem ctN_blind {sz : Nat} {av : List Value} {D : va_G} {w0 : va_W} {E : (Nat → Prop) → State → Prop} (hE : ∀ (A : Nat → Prop) (U : State) (g : JFrame) (mk : MethodId) (a : Array Value), E A U → E A (U.calling g mk a)) : FrameBlind (va_Pc av (fun U => U.heap.size = sz ∧ va_P D vwCl w0 U.heap ∧ va_K D vwCl [(cI, .int)] U ∧ va_D (fun _ => True) w0 ∧ nF U ∧ E (va_A w0 sz) U)) :=
  fun a U g mk q => by obtain ⟨q0, q1, qP, qK, qD, qN, qE⟩ := q; exact ⟨q0, q1, qP, va_K.moved (u := U) (U := U.calling g mk a) (Vm.Alike.refl U.vm) qK, qD, nF_blind qN, hE _ _ _ _ _ qE⟩
theorem g_ranN {p : Program} {l : Launch} {e : Env} {R : Room} {s : State} {m : MethodId} {args : Array Value} {below : List Frame} {meth : Method} {c : Code} {Q : State → Prop} {D : va_G} {A : Nat → Prop} {wc wr : va_W} {P : va_W → Prop} {mc ms : Nat} (isC isR : List Nat) {a : Array Value} {H : Heap} {locs : List Loc} {ls : Array Slot} {st0 : List Value}
    (hr : va_Run p l e R s m args below meth c H locs k n mc ms (F0 m pc ls st0) rest ((fun _ st oc t => (oc = .returned none ∧ ∃ w1, P w1 ∧ va_P D vwCl w1 t.heap ∧ va_D (va_A wc H.size) w1) ∧ va_F (va_A wc H.size) st t : Array Value → State → Outcome → State → Prop) a) (va_A wc H.size))
    (hA : ∀ q, s.heap.size ≤ q → A q) (hP : va_P D vwCl ws H) (hD : va_D A ws) (hS : va_S A s.heap H locs) (hl : lv_has ls nL lv) (hC : isC.map (fun i => ws[i]?) = wc.map some) (hR : isR.map (fun i => ws[i]?) = wr.map some) (hnr : va_nd isR = true) (hdis : ∀ i ∈ isR, i ∉ isC)
    (kk : ∀ w1 : va_W, P w1 → gg cI (p, l, e, R, s, m, args, below, meth, c, Q, D, A) nL (k + mc) (n + ms) (wr ++ w1) lv (pc + 3) rest) : W p l e R s m args below meth c H locs k n Q (F0 m pc ls st0) := by
  intro T hT X
  obtain ⟨v, st₀, t, T', L, h0, X', hL, e1, e2, ⟨⟨hv, w1, hPw, hP1, hD1⟩, hz, hk⟩, st⟩ := hr T hT X
  cases hv
  rw [h0] at hz hk
  have hF := va_free (wc := wc) hD hS hA isC hC
  obtain ⟨hP2, hD2⟩ := va_join hP hD isC isR hC hR hnr hdis (fun q h1 h2 => hk q h1 h2) hF hP1 hD1
  have hS2 : va_S A s.heap T'.heap (locs ++ L) := ⟨Nat.le_trans hS.1 (by rw [e1]; exact hz), fun q h1 h2 => by rw [e1, hk q (Nat.lt_of_lt_of_le h1 hS.1) (fun z => h2 (hF q z))]; exact hS.2.1 q h1 h2, fun q hq => by
      rcases List.mem_append.mp hq with h | h
      · exact hS.2.2 q h
      · exact hF _ (hL q h)⟩
  obtain ⟨t2, a1, b1⟩ := kk w1 hPw T'.heap (locs ++ L) ls (by rw [e1]; exact hP2) hD2 hS2 hl T' rfl X'
  exact ⟨t2, st t2 a1, b1⟩
def EOk (E : (Nat → Prop) → State → Prop) : Prop := (∀ (A : Nat → Prop) (U : State) (g : JFrame) (mk : MethodId) (a : Array Value), E A U → E A (U.calling g mk a)) ∧ ∀ (A B : Nat → Prop) (s U : State) (H : Heap) (locs : List Loc), va_S A s.heap H locs → (∀ q, B q → A q) → U.heap = H → s.WarmedH U.vm → E A s → E B U
theorem g_callI (C : cx cI X nL cc own rm) {E : (Nat → Prop) → State → Prop} (hE : EOk E) (hX : xE E X) {idx nA : Nat} {y : MethodName} (V : Cond.methodLink own idx y ∈ gtb) (I : Cond.instanceMethod y ∈ gtb) (Ini : Cond.initialized y.cls ∈ gtb) (hyn : y.name = "<init>") (hyd : y.cls ≠ "java/lang/invoke/MethodHandle" ∧ y.cls ≠ "java/lang/invoke/VarHandle" ∧ (parseMethodDescriptor y.desc).map (fun d => d.parameters.length) = some nA) {bytes : ByteArray} {maxL : Nat} (K : Cond.code y bytes maxL none ∈ gtb) {rc : Room} {mc ms : Nat} {a : Nat} (As : List Value) {wc wr : va_W} {P : va_W → Prop}
    (hM : ∀ (l : Launch) (D : va_G), ctN l y (.code y bytes maxL none :: gtb) rc D cI E (.ref a :: As) wc mc ms P) (hR : (rc.cells = mc ∧ rc.slots = ms) ∧ rc.frames + 1 ≤ rm.frames ∧ 8 + (maxL + 11) + rc.locals ≤ rm.locals) (hnA : As.length = nA)
    (isC isR : List Nat) (hnd : va_nd isC = true) (hnr : va_nd isR = true) (hdis : ∀ i ∈ isR, i ∉ isC) (hC : isC.map (fun i => ws[i]?) = wc.map some) (hRr : isR.map (fun i => ws[i]?) = wr.map some) {st : List Value} (hst : st = As.reverse ++ .ref a :: rest) (hroom : (rest.map fun v => v.category).sum ≤ 8) (hk : k + mc ≤ rm.cells) (hn : n + ms ≤ rm.slots) (hd : decode cc pc = .ok (.invokespecial idx, 3))
    (kk : ∀ w1 : va_W, P w1 → gg cI X nL (k + mc) (n + ms) (wr ++ w1) lv (pc + 3) rest) : gg cI X nL k n ws lv pc st := by
  obtain ⟨p, l, e, R, s, m, args, below, meth, c, Q, D, A⟩ := X
  obtain ⟨hx, hb, hml, hown, hts, hK, hA, rfl, hN⟩ := C
  subst hst
  intro H locs ls hP hD hS hl
  have cb : CallB R s args own idx y bytes maxL none (.code y bytes maxL none :: gtb) rc mc ms nA := callB_of nA hts (gtb_in K) rfl hR.1.1 hR.1.2 (hts _ Ini) (hts _ V) hyd hR.2
  have hF := va_free (wc := wc) hD hS hA isC hC
  have PV : PreS s H (va_Pc (.ref a :: As) (fun U => U.heap.size = H.size ∧ va_P D vwCl wc U.heap ∧ va_K D vwCl [(cI, .int)] U ∧ va_D (fun _ => True) wc ∧ nF U ∧ E (va_A wc H.size) U)) (.ref a :: As) := by
    exact ⟨ctN_blind hE.1, fun U hU hW => ⟨rfl, by rw [hU], by rw [hU]; exact va_P_pl hP isC hC, va_K.moved hW.alike hK, (hD.sub isC hnd hC).weaken (fun _ _ _ _ => trivial), nF_warm hW hN, hE.2 A _ s U H locs hS hF hU hW hX⟩⟩
  exact g_ranN (a := (Value.ref a :: As).toArray) isC isR (va_runI (As := As) (rest := rest) ⟨hx, hb, hml, hown, hts⟩ (hM l D H.size) ⟨cb, hyn, hts _ I⟩ PV rfl hnA hl.1 rfl (lv_room hroom) hd ⟨hk, hn⟩) hA hP hD hS hl hC hRr hnr hdis kk
theorem g_callIN (C : cx cI X nL cc own rm) {E : (Nat → Prop) → State → Prop} (hE : EOk E) (hX : xE E X) {idx nA : Nat} {y : MethodName} {host : String} (V : ∀ s : State, nF s → va_Nw (.methodLinkNest own idx y host) s) (I : Cond.instanceMethod y ∈ gtb) (Ini : Cond.initialized y.cls ∈ gtb) (hyn : y.name = "<init>") (hyd : y.cls ≠ "java/lang/invoke/MethodHandle" ∧ y.cls ≠ "java/lang/invoke/VarHandle" ∧ (parseMethodDescriptor y.desc).map (fun d => d.parameters.length) = some nA) {bytes : ByteArray} {maxL : Nat} (K : Cond.code y bytes maxL none ∈ gtb) {rc : Room} {mc ms : Nat} {a : Nat} (As : List Value) {wc wr : va_W} {P : va_W → Prop}
    (hM : ∀ (l : Launch) (D : va_G), ctN l y (.code y bytes maxL none :: gtb) rc D cI E (.ref a :: As) wc mc ms P) (hR : (rc.cells = mc ∧ rc.slots = ms) ∧ rc.frames + 1 ≤ rm.frames ∧ 8 + (maxL + 11) + rc.locals ≤ rm.locals) (hnA : As.length = nA)
    (isC isR : List Nat) (hnd : va_nd isC = true) (hnr : va_nd isR = true) (hdis : ∀ i ∈ isR, i ∉ isC) (hC : isC.map (fun i => ws[i]?) = wc.map some) (hRr : isR.map (fun i => ws[i]?) = wr.map some) {st : List Value} (hst : st = As.reverse ++ .ref a :: rest) (hroom : (rest.map fun v => v.category).sum ≤ 8) (hk : k + mc ≤ rm.cells) (hn : n + ms ≤ rm.slots) (hd : decode cc pc = .ok (.invokespecial idx, 3))
    (kk : ∀ w1 : va_W, P w1 → gg cI X nL (k + mc) (n + ms) (wr ++ w1) lv (pc + 3) rest) : gg cI X nL k n ws lv pc st := by
  obtain ⟨p, l, e, R, s, m, args, below, meth, c, Q, D, A⟩ := X
  obtain ⟨hx, hb, hml, hown, hts, hK, hA, rfl, hN⟩ := C
  subst hst
  intro H locs ls hP hD hS hl
  have cb : va_CN R s args own idx y host bytes maxL none (.code y bytes maxL none :: gtb) rc mc ms nA := va_cnB nA hts (gtb_in K) rfl hR.1.1 hR.1.2 (V s hN) (hts _ Ini) hyd hR.2
  have hF := va_free (wc := wc) hD hS hA isC hC
  have PV : PreS s H (va_Pc (.ref a :: As) (fun U => U.heap.size = H.size ∧ va_P D vwCl wc U.heap ∧ va_K D vwCl [(cI, .int)] U ∧ va_D (fun _ => True) wc ∧ nF U ∧ E (va_A wc H.size) U)) (.ref a :: As) := by
    exact ⟨ctN_blind hE.1, fun U hU hW => ⟨rfl, by rw [hU], by rw [hU]; exact va_P_pl hP isC hC, va_K.moved hW.alike hK, (hD.sub isC hnd hC).weaken (fun _ _ _ _ => trivial), nF_warm hW hN, hE.2 A _ s U H locs hS hF hU hW hX⟩⟩
  exact g_ranN (a := (Value.ref a :: As).toArray) isC isR (va_runIN (As := As) (rest := rest) ⟨hx, hb, hml, hown, hts⟩ (hM l D H.size) ⟨cb, hyn, hts _ I⟩ PV rfl hnA hl.1 rfl (lv_room hroom) hd ⟨hk, hn⟩) hA hP hD hS hl hC hRr hnr hdis kk
def E0 : (Nat → Prop) → State → Prop := fun _ _ => True
theorem E0_ok : EOk E0 := ⟨fun _ _ _ _ _ _ => trivial, fun _ _ _ _ _ _ _ _ _ _ _ => trivial⟩
end NEWS
