/-! ===== floats and longs ===== -/
def zfc (op : CmpOp) (x y : UInt32) : Int := (Op.cmpValue (FP.fcmp x y) op).toInt
theorem zfc_bd (op : CmpOp) (x y : UInt32) : -2147483648 ≤ zfc op x y ∧ zfc op x y < 2147483648 := ⟨Int32.le_toInt _, Int32.toInt_lt _⟩
def zn32 (r : UInt32) : Bool := decide (r &&& 0x7fffffff ≤ 0x7f800000)
theorem zn32_of {r : UInt32} (h : zn32 r = true) : vf_n32 r := by
  unfold zn32 at h
  unfold vf_n32
  exact of_decide_eq_true h
def zlsl (x : Int64) (y : Int) : Int64 := x <<< ((iI y).toInt64 &&& 63)
def zlus (x : Int64) (y : Int) : Int64 := (x.toUInt64 >>> ((iI y).toInt64.toUInt64 &&& Int64.toUInt64 63)).toInt64
section ZL
variable {K : Kp} {X : CX} {pc : Nat} {lv lv' : List (Nat × MV)} {st : List MV} {M M' : Mem}
theorem z_fconst0 (hc : zCx K X) (dg : decode K.1 pc = .ok (.fconst 0, 1)) (k : zJW X (pc + 1) lv (zF FP.fconst0 :: st) M) : zJW X pc lv st M := by
  obtain ⟨p, l, e, R, s, m, args, below, meth, c, D, dA, ids, ad, A, cs, nL, Q⟩ := X
  obtain ⟨hx, hb, -⟩ := hc
  intro H locs ls hP hS hv
  exact lv_fconst0 hx hb dg (k H locs ls hP hS hv)
theorem z_fconst1 (hc : zCx K X) (dg : decode K.1 pc = .ok (.fconst 1, 1)) (k : zJW X (pc + 1) lv (zF FP.fconst1 :: st) M) : zJW X pc lv st M := by
  obtain ⟨p, l, e, R, s, m, args, below, meth, c, D, dA, ids, ad, A, cs, nL, Q⟩ := X
  obtain ⟨hx, hb, -⟩ := hc
  intro H locs ls hP hS hv
  exact lv_fconst1 hx hb dg (k H locs ls hP hS hv)
theorem z_fconst2 (hc : zCx K X) (dg : decode K.1 pc = .ok (.fconst 2, 1)) (k : zJW X (pc + 1) lv (zF FP.fconst2 :: st) M) : zJW X pc lv st M := by
  obtain ⟨p, l, e, R, s, m, args, below, meth, c, D, dA, ids, ad, A, cs, nL, Q⟩ := X
  obtain ⟨hx, hb, -⟩ := hc
  intro H locs ls hP hS hv
  exact lv_fconst2 hx hb dg (k H locs ls hP hS hv)
theorem z_fsub (hc : zCx K X) {x y : UInt32} (hne : vf_n32 (FP.fsub x y)) (dg : decode K.1 pc = .ok (.fsub, 1)) (k : zJW X (pc + 1) lv (zF (FP.fsub x y) :: st) M) : zJW X pc lv (zF y :: zF x :: st) M := by
  obtain ⟨p, l, e, R, s, m, args, below, meth, c, D, dA, ids, ad, A, cs, nL, Q⟩ := X
  obtain ⟨hx, hb, -⟩ := hc
  intro H locs ls hP hS hv
  exact lv_fsub hx hb dg hne (k H locs ls hP hS hv)
theorem z_fmul (hc : zCx K X) {x y : UInt32} (hne : vf_n32 (FP.fmul x y)) (dg : decode K.1 pc = .ok (.fmul, 1)) (k : zJW X (pc + 1) lv (zF (FP.fmul x y) :: st) M) : zJW X pc lv (zF y :: zF x :: st) M := by
  obtain ⟨p, l, e, R, s, m, args, below, meth, c, D, dA, ids, ad, A, cs, nL, Q⟩ := X
  obtain ⟨hx, hb, -⟩ := hc
  intro H locs ls hP hS hv
  exact lv_fmul hx hb dg hne (k H locs ls hP hS hv)
theorem z_fdiv (hc : zCx K X) {x y : UInt32} (hne : vf_n32 (FP.fdiv x y)) (dg : decode K.1 pc = .ok (.fdiv, 1)) (k : zJW X (pc + 1) lv (zF (FP.fdiv x y) :: st) M) : zJW X pc lv (zF y :: zF x :: st) M := by
  obtain ⟨p, l, e, R, s, m, args, below, meth, c, D, dA, ids, ad, A, cs, nL, Q⟩ := X
  obtain ⟨hx, hb, -⟩ := hc
  intro H locs ls hP hS hv
  exact lv_fdiv hx hb dg hne (k H locs ls hP hS hv)
theorem z_fcmp (hc : zCx K X) {x y : UInt32} (op : CmpOp) (dg : decode K.1 pc = .ok (.fcmp op, 1)) (k : zJW X (pc + 1) lv (zI (zfc op x y) :: st) M) : zJW X pc lv (zF y :: zF x :: st) M := by
  obtain ⟨p, l, e, R, s, m, args, below, meth, c, D, dA, ids, ad, A, cs, nL, Q⟩ := X
  obtain ⟨hx, hb, -⟩ := hc
  intro H locs ls hP hS hv
  refine lv_fcmp hx hb dg ?_
  rw [← iI_val (Op.cmpValue (FP.fcmp x y) op)]
  exact k H locs ls hP hS hv
theorem z_i2f (hc : zCx K X) {a : Int} (dg : decode K.1 pc = .ok (.i2f, 1)) (k : zJW X (pc + 1) lv (zF (FP.i2f (iI a)) :: st) M) : zJW X pc lv (zI a :: st) M := by
  obtain ⟨p, l, e, R, s, m, args, below, meth, c, D, dA, ids, ad, A, cs, nL, Q⟩ := X
  obtain ⟨hx, hb, -⟩ := hc
  intro H locs ls hP hS hv
  exact lv_i2f hx hb dg (k H locs ls hP hS hv)
theorem z_f2i (hc : zCx K X) {x : UInt32} (dg : decode K.1 pc = .ok (.f2i, 1)) (k : zJW X (pc + 1) lv (zI (FP.f2i x).toInt :: st) M) : zJW X pc lv (zF x :: st) M := by
  obtain ⟨p, l, e, R, s, m, args, below, meth, c, D, dA, ids, ad, A, cs, nL, Q⟩ := X
  obtain ⟨hx, hb, -⟩ := hc
  intro H locs ls hP hS hv
  refine lv_f2i hx hb dg ?_
  rw [← iI_val (FP.f2i x)]
  exact k H locs ls hP hS hv
theorem z_ladd (hc : zCx K X) {x y : Int64} (dg : decode K.1 pc = .ok (.ladd, 1)) (k : zJW X (pc + 1) lv (zL (x + y) :: st) M) : zJW X pc lv (zL y :: zL x :: st) M := by
  obtain ⟨p, l, e, R, s, m, args, below, meth, c, D, dA, ids, ad, A, cs, nL, Q⟩ := X
  obtain ⟨hx, hb, -⟩ := hc
  intro H locs ls hP hS hv
  exact lv_ladd hx hb dg (k H locs ls hP hS hv)
theorem z_lsub (hc : zCx K X) {x y : Int64} (dg : decode K.1 pc = .ok (.lsub, 1)) (k : zJW X (pc + 1) lv (zL (x - y) :: st) M) : zJW X pc lv (zL y :: zL x :: st) M := by
  obtain ⟨p, l, e, R, s, m, args, below, meth, c, D, dA, ids, ad, A, cs, nL, Q⟩ := X
  obtain ⟨hx, hb, -⟩ := hc
  intro H locs ls hP hS hv
  exact lv_lsub hx hb dg (k H locs ls hP hS hv)
theorem z_land (hc : zCx K X) {x y : Int64} (dg : decode K.1 pc = .ok (.land, 1)) (k : zJW X (pc + 1) lv (zL (x &&& y) :: st) M) : zJW X pc lv (zL y :: zL x :: st) M := by
  obtain ⟨p, l, e, R, s, m, args, below, meth, c, D, dA, ids, ad, A, cs, nL, Q⟩ := X
  obtain ⟨hx, hb, -⟩ := hc
  intro H locs ls hP hS hv
  exact lv_land hx hb dg (k H locs ls hP hS hv)
theorem z_lor (hc : zCx K X) {x y : Int64} (dg : decode K.1 pc = .ok (.lor, 1)) (k : zJW X (pc + 1) lv (zL (x ||| y) :: st) M) : zJW X pc lv (zL y :: zL x :: st) M := by
  obtain ⟨p, l, e, R, s, m, args, below, meth, c, D, dA, ids, ad, A, cs, nL, Q⟩ := X
  obtain ⟨hx, hb, -⟩ := hc
  intro H locs ls hP hS hv
  exact lv_lor hx hb dg (k H locs ls hP hS hv)
theorem z_lshl (hc : zCx K X) {x : Int64} {y : Int} (dg : decode K.1 pc = .ok (.lshl, 1)) (k : zJW X (pc + 1) lv (zL (zlsl x y) :: st) M) : zJW X pc lv (zI y :: zL x :: st) M := by
  obtain ⟨p, l, e, R, s, m, args, below, meth, c, D, dA, ids, ad, A, cs, nL, Q⟩ := X
  obtain ⟨hx, hb, -⟩ := hc
  intro H locs ls hP hS hv
  exact lv_lshl hx hb (v := zlsl x y) dg rfl (k H locs ls hP hS hv)
theorem z_lushr (hc : zCx K X) {x : Int64} {y : Int} (dg : decode K.1 pc = .ok (.lushr, 1)) (k : zJW X (pc + 1) lv (zL (zlus x y) :: st) M) : zJW X pc lv (zI y :: zL x :: st) M := by
  obtain ⟨p, l, e, R, s, m, args, below, meth, c, D, dA, ids, ad, A, cs, nL, Q⟩ := X
  obtain ⟨hx, hb, -⟩ := hc
  intro H locs ls hP hS hv
  exact lv_lushr hx hb (v := zlus x y) dg rfl (k H locs ls hP hS hv)
theorem z_l2i (hc : zCx K X) {x : Int64} (dg : decode K.1 pc = .ok (.l2i, 1)) (k : zJW X (pc + 1) lv (zI x.toInt32.toInt :: st) M) : zJW X pc lv (zL x :: st) M := by
  obtain ⟨p, l, e, R, s, m, args, below, meth, c, D, dA, ids, ad, A, cs, nL, Q⟩ := X
  obtain ⟨hx, hb, -⟩ := hc
  intro H locs ls hP hS hv
  exact lv_l2i hx hb (v := iI x.toInt32.toInt) dg (by rw [iI_val]) (k H locs ls hP hS hv)
end ZL
/-! ===== the share's bits ===== -/
def zdb (i : Nat) (x : UInt32) : UInt32 := zrep (fun _ y => FP.fmul y FP.fconst2) i x
theorem zdb_s (x : UInt32) : ∀ i : Nat, zdb (i + 1) x = zdb i (FP.fmul x FP.fconst2)
  | 0 => rfl
  | i + 1 => by
    show FP.fmul (zdb (i + 1) x) FP.fconst2 = FP.fmul (zdb i (FP.fmul x FP.fconst2)) FP.fconst2
    rw [zdb_s x i]
def zshV (N : Nat) (x : UInt32) : Int := zor (zsl (127 - (N : Int)) 23) (FP.f2i (FP.fmul (FP.fsub x FP.fconst1) 1258291200)).toInt
def zshU (N : Nat) (x : UInt32) : Int := zsl (127 - (N : Int)) 23 + (FP.f2i (FP.fmul x 1258291200)).toInt - 8388608
/-- what both need of a share that isn't 0, to double it N times -/
def zshH (x : UInt32) (N : Nat) : Prop := N < 126 ∧ (∀ i, i < N → zfc .g (zdb i x) FP.fconst1 < 0 ∧ vf_n32 (zdb (i + 1) x)) ∧ 0 ≤ zfc .g (zdb N x) FP.fconst1 ∧ vf_n32 (FP.fsub (zdb N x) FP.fconst1) ∧ vf_n32 (FP.fmul (FP.fsub (zdb N x) FP.fconst1) 1258291200) ∧ vf_n32 (FP.fmul (zdb N x) 1258291200) ∧ zshV N (zdb N x) = zshU N (zdb N x)
def zshE (N : Nat) (x : UInt32) : Bool := zn32 (FP.fsub x FP.fconst1) && (zn32 (FP.fmul (FP.fsub x FP.fconst1) 1258291200) && (zn32 (FP.fmul x 1258291200) && decide (zshV N x = zshU N x)))
def zshW : Nat → Nat → UInt32 → Bool
  | 0, _, _ => false
  | f + 1, N, x => if zfc .g x FP.fconst1 < 0 then zn32 (FP.fmul x FP.fconst2) && zshW f (N + 1) (FP.fmul x FP.fconst2) else zshE N x
theorem zshW_of : ∀ (f N : Nat) (x : UInt32), zshW f N x = true → ∃ n : Nat, n < f ∧ (∀ i, i < n → zfc .g (zdb i x) FP.fconst1 < 0 ∧ vf_n32 (zdb (i + 1) x)) ∧ 0 ≤ zfc .g (zdb n x) FP.fconst1 ∧ zshE (N + n) (zdb n x) = true
  | 0, _, _, h => absurd h (by simp [zshW])
  | f + 1, N, x, h => by
    unfold zshW at h
    by_cases c : zfc .g x FP.fconst1 < 0
    · rw [if_pos c] at h
      have h1 := (Bool.and_eq_true_iff.mp h).1
      obtain ⟨n, k1, k2, k3, k4⟩ := zshW_of f (N + 1) _ (Bool.and_eq_true_iff.mp h).2
      refine ⟨n + 1, by omega, fun i hi => ?_, ?_, ?_⟩
      · cases i with
        | zero => exact ⟨c, zn32_of h1⟩
        | succ i =>
          have := k2 i (by omega)
          rw [zdb_s x (i + 1), zdb_s x i]
          exact this
      · rw [zdb_s]; exact k3
      · rw [zdb_s, show N + (n + 1) = N + 1 + n by omega]; exact k4
    · rw [if_neg c] at h
      exact ⟨0, by omega, fun i hi => absurd hi (Nat.not_lt_zero i), by show 0 ≤ zfc .g x FP.fconst1; omega, h⟩
/-- a pair of numbers of tiles: land and all -/
def zshP (n d : Nat) : Bool := let x := FP.fdiv (FP.i2f (iI n)) (FP.i2f (iI d)); zn32 x && (if n = 0 then decide (zfc .g x FP.fconst0 ≤ 0) && decide (zfc .l x FP.fconst0 = 0) else (decide (0 < zfc .g x FP.fconst0) && decide (zfc .l x FP.fconst0 ≠ 0)) && zshW 10 0 x)
