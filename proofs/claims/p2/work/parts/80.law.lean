/-! the law: its script, its order of cells -/
def xX (b L : Nat) (xs : Nat → Int32) (X : xT) : Prop := match X with
  | (p, l, e, R, s, m, args, below, meth, c, Q, D, A) => va_X b L xs s s.heap ∧ b < s.heap.size ∧ ¬ A b
section LAWROWS
variable {cI : ClassId} {X : xT} {nL k n : Nat} {cc : ByteArray} {own : String} {rm : Room} {ws : va_W} {lv : List (Nat × Value)} {pc : Nat} {rest : List Value}
theorem g_sld (C : cx cI X nL cc own rm) {b L : Nat} {xs : Nat → Int32} (hX : xX b L xs X) {i : Int32} (hin : vp_in i L) (hd : decode cc pc = .ok (.iaload, 1)) (kk : gg cI X nL k n ws lv (pc + 1) (.int (xs i.toNatClampNeg) :: rest)) : gg cI X nL k n ws lv pc (.int i :: .ref b :: rest) := by
  obtain ⟨p, l, e, R, s, m, args, below, meth, c, Q, D, A⟩ := X
  exact fun H locs ls hP hD hS hl => va_sld C.1 C.2.1 hX.1 hX.2.1 hX.2.2 hS hin hd (kk H locs ls hP hD hS hl)
theorem g_slen (C : cx cI X nL cc own rm) {b L : Nat} {xs : Nat → Int32} (hX : xX b L xs X) (hd : decode cc pc = .ok (.arraylength, 1)) (kk : gg cI X nL k n ws lv (pc + 1) (.int (nI L) :: rest)) : gg cI X nL k n ws lv pc (.ref b :: rest) := by
  obtain ⟨p, l, e, R, s, m, args, below, meth, c, Q, D, A⟩ := X
  exact fun H locs ls hP hD hS hl => va_slen C.1 C.2.1 hX.1 hX.2.1 hX.2.2 hS hd (kk H locs ls hP hD hS hl)
theorem g_perm (is : List Nat) {ws' : va_W} (hn : va_nd is = true) (h : is.map (fun i => ws[i]?) = ws'.map some) {st : List Value} (kk : gg cI X nL k n ws' lv pc st) : gg cI X nL k n ws lv pc st := by
  obtain ⟨p, l, e, R, s, m, args, below, meth, c, Q, D, A⟩ := X
  exact fun H locs ls hP hD hS hl => kk H locs ls (va_P_pl hP is h) (hD.sub is hn h) hS hl
end LAWROWS
