/-! ===== what the questions answer, of a map ===== -/
theorem zrep_keep {α : Type} {f : Nat → α → α} {b : α} (h : ∀ i, f i b = b) : ∀ n, zrep f n b = b
  | 0 => rfl
  | n + 1 => by rw [zrep_succ, zrep_keep h n, h n]
theorem zrep_stop {α : Type} {f : Nat → α → α} {a b : α} {m n : Nat} (hmn : m ≤ n) (hb : zrep f m a = b) (hk : ∀ i, f i b = b) : zrep f n a = b := by
  obtain ⟨q, rfl⟩ : ∃ q, n = m + q := ⟨n - m, by omega⟩
  rw [zrep_add, hb]
  exact zrep_keep (fun i => hk _) q
def tlA (t : TS) (r c p : Int) : Int := if inT t r c then (if p = 0 then zbz (laT t r c) else if p = 1 then arT t r c else if p = 2 then rsT t r c else if p = 3 then saT t r c else if p = 4 then zbz (decide (piT t r c ≠ -1)) else if p = 5 then faT t r c else -2) else -1
def ftA (t : TS) : Int := z2 t (fun r c n => n + faT t r c) 0
def zfi (t : TS) (p : Int → Int → Bool) : Int := z2 t (fun r c x => if x ≠ -6 then x else if p r c = true then 100 * r + c else -6) (-6)
theorem zfi_at {t : TS} {p : Int → Int → Bool} {i j : Nat} (hi : i < (tH t).toNat) (hj : j < (tW t).toNat) (h1 : zrep (fun (r : Nat) (x : Int) => zrep (fun (c : Nat) (x : Int) => if x ≠ -6 then x else if p r c = true then 100 * (r : Int) + c else -6) (tW t).toNat x) i (-6) = -6) (h2 : zrep (fun (c : Nat) (x : Int) => if x ≠ -6 then x else if p i c = true then 100 * (i : Int) + c else -6) j (-6) = -6) (hp : p i j = true) : zfi t p = 100 * (i : Int) + j := by
  have hne : (100 * (i : Int) + j) ≠ -6 := by omega
  have e1 : zrep (fun (c : Nat) (x : Int) => if x ≠ -6 then x else if p i c = true then 100 * (i : Int) + c else -6) (j + 1) (-6) = 100 * (i : Int) + j := by
    rw [zrep_succ, h2]
    simp [hp]
  have e2 := zrep_stop (n := (tW t).toNat) (by omega) e1 (fun c => by rw [if_pos hne])
  have e3 : zrep (fun (r : Nat) (x : Int) => zrep (fun (c : Nat) (x : Int) => if x ≠ -6 then x else if p r c = true then 100 * (r : Int) + c else -6) (tW t).toNat x) (i + 1) (-6) = 100 * (i : Int) + j := by
    rw [zrep_succ, h1]
    exact e2
  have e4 : ∀ r : Nat, zrep (fun (c : Nat) (x : Int) => if x ≠ -6 then x else if p r c = true then 100 * (r : Int) + c else -6) (tW t).toNat (100 * (i : Int) + j) = 100 * (i : Int) + j := fun r => zrep_keep (fun c => by rw [if_pos hne]) _
  exact zrep_stop (n := (tH t).toNat) (by omega) e3 e4
def ffA (t : TS) : Int := zfi t (fun r c => decide (0 < faT t r c))
def moA (s : Int) : Int := if 0 ≤ s ∧ s < 47 then mkZ s else -1
def shA (m : Int) : Int := if 0 ≤ m ∧ m < 256 then shZ m else -2
def tuA (s q : Int) : Int := if 0 ≤ s ∧ s < 47 then (if 0 ≤ q ∧ q ≤ 3 then tuZ s q else -2) else -1
def miA (s : Int) : Int := if 0 ≤ s ∧ s < 47 then moZ s else -1
def ctT (t : TS) (s : Int) : Int := z2 t (fun r c n => n + zbz (decide (saT t r c = s))) 0
def cnA (t : TS) (s : Int) : Int := if 0 ≤ s ∧ s < 47 then ctT t s else -1
def coX (t : TS) (r c : Int) : Int := if laT t r c then bcZ (zan (zxr (arT t r c) (-1)) 85) else 0
def coA (t : TS) : Int := z2 t (fun r c n => n + coX t r c) 0
def moT (t : TS) (r c : Int) : Int := zrep (fun (d : Nat) (x : Int) => if laT t (r + zrow (2 * d)) (c + zcol (2 * d)) then (if inT t (r + zrow (2 * d)) (c + zcol (2 * d)) then x + (-1) else x) else x + 1) 4 0
def ccA (t : TS) (r c : Int) : Int := if inT t r c then 100 + (if laT t r c then -(moT t r c) else moT t r c) else -1
def wrT (t : TS) (r c s : Int) : Int := zan (zxr (mkZ s) (arT t r c)) (btZ (mkZ s))
def neA (t : TS) (r c s : Int) : Int := if inT t r c = true ∧ 0 ≤ s ∧ s < 47 then (if zan (wrT t r c s) (obT t r c) ≠ 0 then -6 else bcZ (wrT t r c s)) else -1
theorem faT_bd {M : Mem} {k : Nat} (hS : zSk M k) (r c : Int) : 0 ≤ faT (tsX M k) r c ∧ faT (tsX M k) r c ≤ 8 := by
  have hb := piT_bd hS r c
  unfold faT
  split
  · have hm := mkZ_bd (s := piT (tsX M k) r c) (by omega)
    have hr : 0 ≤ rmT (tsX M k) r c ∧ rmT (tsX M k) r c < 256 := rdZ_any _
    have hx := zxr_bd (a := mkZ (piT (tsX M k) r c)) (b := rmT (tsX M k) r c) (by omega) hr
    have := rdZ_bd hx
    omega
  · omega
theorem saT_bd {M : Mem} {k : Nat} (hS : zSk M k) (r c : Int) : -6 ≤ saT (tsX M k) r c ∧ saT (tsX M k) r c < 47 := by
  have hb := piT_bd hS r c
  have hr := rdZ_bd (arT_bd (tsX M k) r c)
  unfold saT
  split
  · split
    · omega
    · unfold rsT rmT; omega
  · omega
