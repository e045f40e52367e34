/-! ===== spreading in the reference's cells ===== -/
def zbTi (t : TS) (q : Nat → Int × Int) (n : Nat) : Bool := zrep (fun (i : Nat) (b : Bool) => b || zbEd t (q i).1 (q i).2) n false
def bsR (M : Mem) : zBs := (fun r c => if inT (tsZ (M 39)) r c then (if M 47 (M 39 1 * r + c) = -6 then -1 else M 47 (M 39 1 * r + c)) else -1, fun n => (M 46 n / M 39 1, M 46 n % M 39 1), (M 38 12).toNat, zbTi (tsZ (M 39)) (fun n => (M 46 n / M 39 1, M 46 n % M 39 1)) (M 38 12).toNat)
/-- nothing is reached -/
def zb0 : zBs := (fun _ _ => -1, fun _ => (0, 0), 0, false)
/-- the start: one place is reached -/
def zb1 (t : TS) (r c : Int) : zBs := (fun r' c' => if r' = r ∧ c' = c then 0 else -1, fun _ => (r, c), 1, zbEd t r c)
theorem zb1_M {t : TS} {r c : Int} (hr : 0 ≤ r ∧ r < 12) (hc : 0 ≤ c ∧ c < 12) : zbM (zb1 t r c) 144 = 1 := by
  have z0 : ∀ n : Nat, zbM zb0 n = 0 := by
    intro n
    induction n with
    | zero => rfl
    | succ n ih =>
      show zbM zb0 n + (if (-1 : Int) = -1 then 0 else 1) = 0
      rw [ih, if_pos rfl]
  have := zbM_add (s := zb0) (s' := zb1 t r c) (r := r) (c := c) hr.1 hc (fun r' c' n => if_neg n) rfl (by show (if r = r ∧ c = c then (0 : Int) else -1) ≠ -1; rw [if_pos ⟨rfl, rfl⟩]; decide) 144 (by omega)
  rw [this, z0]
def sfM (M : Mem) (n : Nat) : Mem := zrep (fun (i : Nat) (Q : Mem) => zup Q 51 (M 46 i) (zbz true)) n M
