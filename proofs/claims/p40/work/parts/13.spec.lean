/-! ===== what a map is, apart from any machine: rows, columns, whether land is outside, land by place, pins by place (-1: none) ===== -/
abbrev TS : Type := Int × Int × Bool × (Int → Int → Bool) × (Int → Int → Int)
def tH (t : TS) : Int := t.1
def tW (t : TS) : Int := t.2.1
def tO (t : TS) : Bool := t.2.2.1
def inT (t : TS) (r c : Int) : Bool := decide (0 ≤ r ∧ r < tH t ∧ 0 ≤ c ∧ c < tW t)
def laT (t : TS) (r c : Int) : Bool := if inT t r c then t.2.2.2.1 r c else tO t
def piT (t : TS) (r c : Int) : Int := if inT t r c then t.2.2.2.2 r c else -1
/-- State k of the class's memory -/
def tsX (M : Mem) (k : Nat) : TS := (M k 0, M k 1, decide (M k 2 = 1), fun r c => decide (0 ≤ r ∧ r < M k 0 ∧ 0 ≤ c ∧ c < M k 1) && decide (M (k + 9) (r * 12 + c) = 1), fun r c => if 0 ≤ r ∧ r < M k 0 ∧ 0 ≤ c ∧ c < M k 1 then M (k + 18) (r * 12 + c) else -1)
/-- 291 numbers of the reference -/
def tsZ (f : Int → Int) : TS := (f 0, f 1, decide (f 2 = 1), fun r c => decide (0 ≤ r ∧ r < f 0 ∧ 0 ≤ c ∧ c < f 1) && decide (f (3 + (f 1 * r + c)) = 1), fun r c => if 0 ≤ r ∧ r < f 0 ∧ 0 ≤ c ∧ c < f 1 then (if f (147 + (f 1 * r + c)) = -6 then -1 else f (147 + (f 1 * r + c))) else -1)
/-- what may lie in a State's cells -/
def zSk (M : Mem) (k : Nat) : Prop := 1 ≤ M k 0 ∧ M k 0 ≤ 12 ∧ 1 ≤ M k 1 ∧ M k 1 ≤ 12 ∧ (M k 2 = 0 ∨ M k 2 = 1) ∧ (∀ i : Int, 0 ≤ i → i < 144 → M (k + 9) i = 0 ∨ M (k + 9) i = 1) ∧ (∀ i : Int, 0 ≤ i → i < 144 → -1 ≤ M (k + 18) i ∧ M (k + 18) i < 47)
theorem inT_X {M : Mem} {k : Nat} {r c : Int} : inT (tsX M k) r c = decide (0 ≤ r ∧ r < M k 0 ∧ 0 ≤ c ∧ c < M k 1) := rfl
theorem laT_X {M : Mem} {k : Nat} {r c : Int} : laT (tsX M k) r c = if 0 ≤ r ∧ r < M k 0 ∧ 0 ≤ c ∧ c < M k 1 then decide (M (k + 9) (r * 12 + c) = 1) else decide (M k 2 = 1) := by
  by_cases h : 0 ≤ r ∧ r < M k 0 ∧ 0 ≤ c ∧ c < M k 1
  · have hi : inT (tsX M k) r c = true := by rw [inT_X]; exact decide_eq_true h
    unfold laT
    rw [hi, if_pos rfl, if_pos h]
    show (decide (0 ≤ r ∧ r < M k 0 ∧ 0 ≤ c ∧ c < M k 1) && decide (M (k + 9) (r * 12 + c) = 1)) = _
    rw [decide_eq_true h, Bool.true_and]
  · have hi : inT (tsX M k) r c = false := by rw [inT_X]; exact decide_eq_false h
    unfold laT
    rw [hi, if_neg h]
    rfl
theorem piT_X {M : Mem} {k : Nat} {r c : Int} : piT (tsX M k) r c = if 0 ≤ r ∧ r < M k 0 ∧ 0 ≤ c ∧ c < M k 1 then M (k + 18) (r * 12 + c) else -1 := by
  by_cases h : 0 ≤ r ∧ r < M k 0 ∧ 0 ≤ c ∧ c < M k 1
  · have hi : inT (tsX M k) r c = true := by rw [inT_X]; exact decide_eq_true h
    unfold piT
    rw [hi, if_pos rfl]
    rfl
  · have hi : inT (tsX M k) r c = false := by rw [inT_X]; exact decide_eq_false h
    unfold piT
    rw [hi, if_neg h]
    rfl
theorem piT_bd {M : Mem} {k : Nat} (h : zSk M k) (r c : Int) : -1 ≤ piT (tsX M k) r c ∧ piT (tsX M k) r c < 47 := by
  obtain ⟨h1, h2, h3, h4, h5, h6, h7⟩ := h
  rw [piT_X]
  split
  · exact h7 _ (by omega) (by omega)
  · omega
theorem zbz_ne {a b : Bool} : zbz a ≠ zbz b ↔ a ≠ b := by cases a <;> cases b <;> decide
theorem zbz_eq {a b : Bool} : zbz a = zbz b ↔ a = b := by cases a <;> cases b <;> decide
def putK (M : Mem) (k : Nat) (r c : Int) (b : Bool) : Mem := if inT (tsX M k) r c = true ∧ laT (tsX M k) r c ≠ b then zup (zup M (k + 9) (r * 12 + c) (zbz b)) (k + 18) (r * 12 + c) (-1) else M
def putP (M : Mem) (k : Nat) (r c s : Int) : Mem := if inT (tsX M k) r c then zup M (k + 18) (r * 12 + c) s else M
def watM (M : Mem) (k : Nat) (h w : Int) (n : Int) : Mem := fun k' z => if k' = k ∧ z = 0 then h else if k' = k ∧ z = 1 then w else if k' = k + 9 ∧ 0 ≤ z ∧ z < n then 0 else if k' = k + 18 ∧ 0 ≤ z ∧ z < n then -1 else M k' z
def copM (M : Mem) (k j : Nat) (n : Int) : Mem := fun k' z => if k' = k ∧ 0 ≤ z ∧ z < 3 then M j z else if k' = k + 9 ∧ 0 ≤ z ∧ z < n then M (j + 9) z else if k' = k + 18 ∧ 0 ≤ z ∧ z < n then M (j + 18) z else M k' z
theorem zbz_of {x : Int} (h : x = 0 ∨ x = 1) : x = zbz (decide (x = 1)) := by rcases h with rfl | rfl <;> rfl
theorem zrow_bd (d : Int) : -1 ≤ zrow d ∧ zrow d ≤ 1 := by unfold zrow; omega
theorem zcol_bd (d : Int) : -1 ≤ zcol d ∧ zcol d ≤ 1 := by unfold zcol; omega
/-- masks out of eight answers -/
def zmk (f : Nat → Bool) : Nat → Int
  | 0 => 0
  | d + 1 => zmk f d + (if f d then 2 ^ d else 0)
theorem zmk_bd (f : Nat → Bool) : ∀ n, 0 ≤ zmk f n ∧ zmk f n < 2 ^ n
  | 0 => ⟨Int.le_refl _, by show (0 : Int) < 2 ^ 0; decide⟩
  | n + 1 => by
    have h := zmk_bd f n
    have e : (2 : Int) ^ (n + 1) = 2 ^ n * 2 := Int.pow_succ 2 n
    show 0 ≤ zmk f n + (if f n then 2 ^ n else 0) ∧ zmk f n + (if f n then 2 ^ n else 0) < 2 ^ (n + 1)
    rw [e]
    split <;> omega
theorem zmk_congr {f g : Nat → Bool} : ∀ {n : Nat}, (∀ d, d < n → f d = g d) → zmk f n = zmk g n
  | 0, _ => rfl
  | n + 1, h => by
    show zmk f n + (if f n then 2 ^ n else 0) = zmk g n + (if g n then 2 ^ n else 0)
    rw [zmk_congr (fun d hd => h d (Nat.lt_succ_of_lt hd)), h n (Nat.lt_succ_self n)]
def afT (t : TS) (r c : Int) : Nat → Bool := fun d => laT t (r + zrow d) (c + zcol d)
def ofT (t : TS) (r c : Int) : Nat → Bool := fun d => !inT t (r + zrow d) (c + zcol d)
def arT (t : TS) (r c : Int) : Int := zmk (afT t r c) 8
def obT (t : TS) (r c : Int) : Int := zmk (ofT t r c) 8
theorem zor_step : ∀ d : Nat, d < 8 → ∀ m : Nat, m < 2 ^ d → zor (m : Int) (zsl 1 d) = (m : Int) + 2 ^ d := by decide +kernel
theorem zmk_or {f : Nat → Bool} {d : Nat} (hd : d < 8) (h : f d = true) : zor (zmk f d) (zsl 1 d) = zmk f (d + 1) := by
  obtain ⟨h1, h2⟩ := zmk_bd f d
  obtain ⟨m, hm⟩ := Int.eq_ofNat_of_zero_le h1
  have h3 : m < 2 ^ d := by
    have e : ((2 ^ d : Nat) : Int) = (2 : Int) ^ d := by simp
    omega
  show _ = zmk f d + (if f d then 2 ^ d else 0)
  rw [if_pos h, hm]
  exact zor_step d hd m h3
theorem zmk_no {f : Nat → Bool} {d : Nat} (h : f d = false) : zmk f d = zmk f (d + 1) := by
  show _ = zmk f d + (if f d then 2 ^ d else 0)
  rw [h]
  simp
-- shapes
def rtZ (m e : Int) : Int := zan (zor (zsl m e) (zsr m (8 - e))) 255
def btZ (m : Int) : Int := zor 85 (zan (rtZ (zan m 85) 1) (rtZ (zan m 85) 7))
def rdZ (m : Int) : Int := zan m (btZ m)
def zregs : List Int := ((List.range 256).map fun m : Nat => (m : Int)).filter fun m => decide (rdZ m = m)
def mkZ (s : Int) : Int := zregs.getD s.toNat 0
def shZ (m : Int) : Int := if m ∈ zregs then (zregs.idxOf m : Int) else -6
def bcZ (x : Int) : Int := zrep (fun d n => n + zan (zsr x d) 1) 8 0
def tuZ (s q : Int) : Int := shZ (rtZ (mkZ s) (2 * q))
/-- the shape of a tile by its eight neighbours, its shape, its faults -/
def rmT (t : TS) (r c : Int) : Int := rdZ (arT t r c)
def rsT (t : TS) (r c : Int) : Int := shZ (rmT t r c)
def saT (t : TS) (r c : Int) : Int := if laT t r c then (if piT t r c ≠ -1 then piT t r c else rsT t r c) else -6
def faT (t : TS) (r c : Int) : Int := if piT t r c ≠ -1 then bcZ (zxr (mkZ (piT t r c)) (rmT t r c)) else 0
theorem arT_bd (t : TS) (r c : Int) : 0 ≤ arT t r c ∧ arT t r c < 256 := zmk_bd _ 8
theorem obT_bd (t : TS) (r c : Int) : 0 ≤ obT t r c ∧ obT t r c < 256 := zmk_bd _ 8
theorem z256 {P : Int → Prop} (h : ∀ n : Nat, n < 256 → P (n : Int)) {m : Int} (hm : 0 ≤ m ∧ m < 256) : P m := by
  obtain ⟨n, rfl⟩ := Int.eq_ofNat_of_zero_le hm.1
  exact h n (by omega)
theorem zregs_eq : zregs.length = 47 := by decide +kernel
theorem rdZ_bd0 : ∀ n : Nat, n < 256 → 0 ≤ rdZ (n : Int) ∧ rdZ (n : Int) < 256 ∧ 0 ≤ btZ (n : Int) ∧ btZ (n : Int) < 256 ∧ rdZ (rdZ n) = rdZ n ∧ 0 ≤ shZ (rdZ n) ∧ shZ (rdZ n) < 47 ∧ mkZ (shZ (rdZ n)) = rdZ n ∧ -6 ≤ shZ n ∧ shZ n < 47 ∧ 0 ≤ bcZ n ∧ bcZ n ≤ 8 := by decide +kernel
theorem rdZ_bd {m : Int} (hm : 0 ≤ m ∧ m < 256) : 0 ≤ rdZ m ∧ rdZ m < 256 ∧ 0 ≤ btZ m ∧ btZ m < 256 ∧ rdZ (rdZ m) = rdZ m ∧ 0 ≤ shZ (rdZ m) ∧ shZ (rdZ m) < 47 ∧ mkZ (shZ (rdZ m)) = rdZ m ∧ -6 ≤ shZ m ∧ shZ m < 47 ∧ 0 ≤ bcZ m ∧ bcZ m ≤ 8 :=
  z256 (P := fun n => 0 ≤ rdZ n ∧ rdZ n < 256 ∧ 0 ≤ btZ n ∧ btZ n < 256 ∧ rdZ (rdZ n) = rdZ n ∧ 0 ≤ shZ (rdZ n) ∧ shZ (rdZ n) < 47 ∧ mkZ (shZ (rdZ n)) = rdZ n ∧ -6 ≤ shZ n ∧ shZ n < 47 ∧ 0 ≤ bcZ n ∧ bcZ n ≤ 8) rdZ_bd0 hm
theorem mkZ_bd0 : ∀ n : Nat, n < 47 → 0 ≤ mkZ (n : Int) ∧ mkZ (n : Int) < 256 ∧ rdZ (mkZ n) = mkZ n ∧ shZ (mkZ n) = n := by decide +kernel
theorem mkZ_bd {s : Int} (hs : 0 ≤ s ∧ s < 47) : 0 ≤ mkZ s ∧ mkZ s < 256 ∧ rdZ (mkZ s) = mkZ s ∧ shZ (mkZ s) = s := by
  obtain ⟨n, rfl⟩ := Int.eq_ofNat_of_zero_le hs.1
  exact mkZ_bd0 n (by omega)
/-- row by row -/
def z2 {α : Type} (t : TS) (f : Int → Int → α → α) (a : α) : α := zrep (fun r x => zrep (fun c y => f r c y) (tW t).toNat x) (tH t).toNat a
theorem z2_flat {α : Type} (t : TS) (f : Int → Int → α → α) (a : α) (hh : 0 ≤ tH t) (hw : 1 ≤ tW t) : zrep (fun (k : Nat) x => f ((k : Int) / tW t) ((k : Int) % tW t) x) (tH t * tW t).toNat a = z2 t f a := by
  obtain ⟨h, eh⟩ := Int.eq_ofNat_of_zero_le hh
  obtain ⟨w, ew⟩ := Int.eq_ofNat_of_zero_le (by omega : 0 ≤ tW t)
  unfold z2
  rw [eh, ew]
  have e1 : ((h : Int) * (w : Int)).toNat = h * w := by
    rw [← Int.natCast_mul, Int.toNat_natCast]
  rw [e1, Int.toNat_natCast, Int.toNat_natCast]
  exact (zrep_flat (fun r c x => f (r : Int) (c : Int) x) w (by omega) a h).symm
def lnT (t : TS) : Int := z2 t (fun r c n => n + zbz (laT t r c)) 0
theorem watM_0 {M : Mem} {k : Nat} {h w : Int} : zup (zup M k 0 h) k 1 w = watM M k h w 0 := by
  funext k' z'
  simp only [watM, zup]
  grind (splits := 30)
theorem watM_s {M : Mem} {k : Nat} {h w : Int} (n : Nat) : zup (zup (watM M k h w n) (k + 9) n 0) (k + 18) n (-1) = watM M k h w ((n + 1 : Nat) : Int) := by
  funext k' z'
  simp only [watM, zup]
  grind (splits := 30)
theorem copM_0 {M : Mem} {k j : Nat} : zup (zup (zup M k 0 (M j 0)) k 1 (M j 1)) k 2 (M j 2) = copM M k j 0 := by
  funext k' z'
  simp only [copM, zup]
  grind (splits := 30)
theorem copM_s {M : Mem} {k j : Nat} (n : Nat) : zup (zup (copM M k j n) (k + 9) n (M (j + 9) n)) (k + 18) n (M (j + 18) n) = copM M k j ((n + 1 : Nat) : Int) := by
  funext k' z'
  simp only [copM, zup]
  grind (splits := 30)
theorem copM_off {M : Mem} {k j : Nat} {n z : Int} {i : Nat} (h1 : i ≠ k) (h2 : i ≠ k + 9) (h3 : i ≠ k + 18) : copM M k j n i z = M i z := by simp [copM, h1, h2, h3]
