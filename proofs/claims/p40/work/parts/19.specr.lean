/-! ===== the reference's numbers as a map ===== -/
/-- a map that is in order: pins on land alone, and of shapes -/
def TOk (t : TS) : Prop := 1 ≤ tH t ∧ tH t ≤ 12 ∧ 1 ≤ tW t ∧ tW t ≤ 12 ∧ (∀ r c : Int, piT t r c = -1 ∨ (0 ≤ piT t r c ∧ piT t r c < 47 ∧ laT t r c = true))
def watR (M : Mem) (n : Int) : Mem := fun k' z => if k' = 39 ∧ 3 ≤ z ∧ z < 3 + n then 0 else if k' = 39 ∧ 147 ≤ z ∧ z < 147 + n then -6 else M k' z
def biZ (m d : Int) : Int := zan (zsr m (zan d 7)) 1
/-- four sides, each once -/
def coT (t : TS) (r c : Int) : Int := if laT t r c then zrep (fun (d : Nat) (x : Int) => x + (if laT t (r + zrow (2 * d)) (c + zcol (2 * d)) then 0 else 1)) 4 0 else 0
def z8 (b0 b1 b2 b3 b4 b5 b6 b7 : Bool) : Nat → Bool := fun d => if d = 0 then b0 else if d = 1 then b1 else if d = 2 then b2 else if d = 3 then b3 else if d = 4 then b4 else if d = 5 then b5 else if d = 6 then b6 else b7
theorem z8_of (f : Nat → Bool) : zmk f 8 = zmk (z8 (f 0) (f 1) (f 2) (f 3) (f 4) (f 5) (f 6) (f 7)) 8 := rfl
