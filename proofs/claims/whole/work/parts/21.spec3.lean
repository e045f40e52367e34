theorem zrep_le {f : Nat → Int → Int} {b : Int} : ∀ {n : Nat} (a : Int), (∀ i, i < n → ∀ x, x ≤ f i x ∧ f i x ≤ x + b) → a ≤ zrep f n a ∧ zrep f n a ≤ a + n * b
  | 0, a, _ => by
    show a ≤ a ∧ a ≤ a + ((0 : Nat) : Int) * b
    simp
  | n + 1, a, h => by
    have h1 := zrep_le (n := n) a (fun i hi => h i (Nat.lt_succ_of_lt hi))
    have h2 := h n (Nat.lt_succ_self n) (zrep f n a)
    have e : ((n + 1 : Nat) : Int) * b = n * b + b := by
      rw [Int.natCast_add, Int.natCast_one, Int.add_mul, Int.one_mul]
    rw [zrep_succ, e]
    omega
theorem z2_le {t : TS} {f : Int → Int → Int → Int} {b : Int} (a : Int) (hb : 0 ≤ b) (ht : 1 ≤ tH t ∧ tH t ≤ 12 ∧ 1 ≤ tW t ∧ tW t ≤ 12) (h : ∀ r c : Int, ∀ x, x ≤ f r c x ∧ f r c x ≤ x + b) : a ≤ z2 t f a ∧ z2 t f a ≤ a + 144 * b := by
  have h1 : ∀ r : Nat, r < (tH t).toNat → ∀ x, x ≤ zrep (fun (c : Nat) y => f r c y) (tW t).toNat x ∧ zrep (fun (c : Nat) y => f r c y) (tW t).toNat x ≤ x + 12 * b := by
    intro r _ x
    have h2 := zrep_le (f := fun (c : Nat) y => f r c y) (b := b) (n := (tW t).toNat) x (fun c _ y => h r c y)
    have h3 : (((tW t).toNat : Nat) : Int) * b ≤ 12 * b := Int.mul_le_mul_of_nonneg_right (by omega) hb
    omega
  have h4 : a ≤ z2 t f a ∧ z2 t f a ≤ a + ((tH t).toNat : Int) * (12 * b) := zrep_le (b := 12 * b) a h1
  have h5 : (((tH t).toNat : Nat) : Int) * (12 * b) ≤ 12 * (12 * b) := Int.mul_le_mul_of_nonneg_right (by omega) (by omega)
  omega
theorem ctT_bd {t : TS} (ht : 1 ≤ tH t ∧ tH t ≤ 12 ∧ 1 ≤ tW t ∧ tW t ≤ 12) (s : Int) : 0 ≤ ctT t s ∧ ctT t s ≤ 144 := by
  have := z2_le (t := t) (f := fun r c n => n + zbz (decide (saT t r c = s))) (b := 1) 0 (by omega) ht (fun r c x => by have := zbz_bd (decide (saT t r c = s)); omega)
  unfold ctT
  omega
theorem coT_bd (t : TS) (r c : Int) : 0 ≤ coT t r c ∧ coT t r c ≤ 4 := by
  unfold coT
  split
  · have := zrep_le (f := fun (d : Nat) (x : Int) => x + (if laT t (r + zrow (2 * d)) (c + zcol (2 * d)) then 0 else 1)) (b := 1) (n := 4) 0 (fun i _ x => by split <;> omega)
    omega
  · omega
def coB (t : TS) : Int := z2 t (fun r c n => n + coT t r c) 0
theorem coB_bd {t : TS} (ht : 1 ≤ tH t ∧ tH t ≤ 12 ∧ 1 ≤ tW t ∧ tW t ≤ 12) : 0 ≤ coB t ∧ coB t ≤ 576 := by
  have := z2_le (t := t) (f := fun r c n => n + coT t r c) (b := 4) 0 (by omega) ht (fun r c x => by have := coT_bd t r c; omega)
  unfold coB
  omega
def spA (t : TS) : Int := zrep (fun (s : Nat) (n : Int) => n + (if 0 < ctT t s then 1 else 0)) 47 0
/-- flat search -/
def zfl (t : TS) (p : Int → Int → Bool) : Int := zrep (fun (k : Nat) (x : Int) => if x ≠ -6 then x else if p ((k : Int) / tW t) ((k : Int) % tW t) = true then 100 * ((k : Int) / tW t) + (k : Int) % tW t else -6) (tH t * tW t).toNat (-6)
theorem zfl_eq {t : TS} (p : Int → Int → Bool) (hh : 0 ≤ tH t) (hw : 1 ≤ tW t) : zfl t p = zfi t p := z2_flat t (fun r c x => if x ≠ -6 then x else if p r c = true then 100 * r + c else -6) (-6) hh hw
theorem zfl_at {t : TS} {p : Int → Int → Bool} {i : Nat} (hi : i < (tH t * tW t).toNat) (hw : 1 ≤ tW t) (h1 : zrep (fun (k : Nat) (x : Int) => if x ≠ -6 then x else if p ((k : Int) / tW t) ((k : Int) % tW t) = true then 100 * ((k : Int) / tW t) + (k : Int) % tW t else -6) i (-6) = -6) (hp : p ((i : Int) / tW t) ((i : Int) % tW t) = true) : zfl t p = 100 * ((i : Int) / tW t) + (i : Int) % tW t := by
  have h2 : 0 ≤ (i : Int) / tW t := Int.ediv_nonneg (by omega) (by omega)
  have h3 : 0 ≤ (i : Int) % tW t := Int.emod_nonneg _ (by omega)
  have hne : (100 * ((i : Int) / tW t) + (i : Int) % tW t) ≠ -6 := by omega
  refine zrep_stop (m := i + 1) (by omega) ?_ (fun k => if_pos hne)
  rw [zrep_succ, h1]
  simp [hp]
def neB (t : TS) (r c s : Int) (n : Nat) : Int := zrep (fun (d : Nat) (x : Int) => if x = -6 then x else if ((d : Int) % 2 = 0 ∨ biZ (mkZ s) (d - 1) + biZ (mkZ s) (d + 1) = 2) ∧ laT t (r + zrow d) (c + zcol d) ≠ decide (biZ (mkZ s) d = 1) then (if inT t (r + zrow d) (c + zcol d) then x + 1 else -6) else x) n 0
theorem zne1 {b : Bool} {x : Int} (h : (zbz b = 1 ∧ x ≠ 1) ∨ (zbz b = 0 ∧ x = 1)) : b ≠ decide (x = 1) := by
  intro e
  subst e
  by_cases hx : x = 1
  · rw [decide_eq_true hx] at h
    rcases h with h | h
    · exact h.2 hx
    · exact absurd h.1 (by decide)
  · rw [decide_eq_false hx] at h
    rcases h with h | h
    · exact absurd h.1 (by decide)
    · exact hx h.2
theorem zeq1 {b : Bool} {x : Int} (h : (zbz b = 1 ∧ x = 1) ∨ (zbz b = 0 ∧ x ≠ 1)) : b = decide (x = 1) := by
  cases b
  · rcases h with h | h
    · exact absurd h.1 (by decide)
    · exact (decide_eq_false h.2).symm
  · rcases h with h | h
    · exact (decide_eq_true h.2).symm
    · exact absurd h.1 (by decide)
theorem neB_y {t : TS} {r c s : Int} {d : Nat} (h0 : neB t r c s d ≠ -6) (hm : (d : Int) % 2 = 0 ∨ biZ (mkZ s) (d - 1) + biZ (mkZ s) (d + 1) = 2) (hl : laT t (r + zrow d) (c + zcol d) ≠ decide (biZ (mkZ s) d = 1)) (hi : inT t (r + zrow d) (c + zcol d) = true) : neB t r c s (d + 1) = neB t r c s d + 1 := by
  unfold neB at h0 ⊢
  rw [zrep_succ, if_neg h0, if_pos ⟨hm, hl⟩, if_pos hi]
theorem neB_n1 {t : TS} {r c s : Int} {d : Nat} (hm : ¬ ((d : Int) % 2 = 0 ∨ biZ (mkZ s) (d - 1) + biZ (mkZ s) (d + 1) = 2)) : neB t r c s (d + 1) = neB t r c s d := by
  unfold neB
  rw [zrep_succ]
  generalize zrep _ d (0 : Int) = x
  by_cases hx : x = -6
  · rw [if_pos hx]
  · rw [if_neg hx, if_neg (fun h => hm h.1)]
theorem neB_n2 {t : TS} {r c s : Int} {d : Nat} (hl : laT t (r + zrow d) (c + zcol d) = decide (biZ (mkZ s) d = 1)) : neB t r c s (d + 1) = neB t r c s d := by
  unfold neB
  rw [zrep_succ]
  generalize zrep _ d (0 : Int) = x
  by_cases hx : x = -6
  · rw [if_pos hx]
  · rw [if_neg hx, if_neg (fun h => h.2 hl)]
theorem neB_stop {t : TS} {r c s : Int} {d : Nat} (hd : d < 8) (h0 : neB t r c s d ≠ -6) (hm : (d : Int) % 2 = 0 ∨ biZ (mkZ s) (d - 1) + biZ (mkZ s) (d + 1) = 2) (hl : laT t (r + zrow d) (c + zcol d) ≠ decide (biZ (mkZ s) d = 1)) (hi : inT t (r + zrow d) (c + zcol d) = false) : neB t r c s 8 = -6 := by
  unfold neB at h0 ⊢
  refine zrep_stop (m := d + 1) (by omega) ?_ (fun k => if_pos rfl)
  rw [zrep_succ, if_neg h0, if_pos ⟨hm, hl⟩, hi]
  rfl
theorem zRf_flip {M : Mem} {k : Int} (hZ : zRf (M 39)) (hk : 0 ≤ k ∧ k < M 39 0 * M 39 1) : zRf (zup M 39 (3 + k) (1 - M 39 (3 + k)) 39) := by
  obtain ⟨hs1, hs2, hs3, hs4, hs5, hs6, hs7⟩ := hZ
  have hw9 := zhw hs1 hs2 hs3 hs4
  have hl6 := hs6 k hk.1 (by omega)
  refine ⟨?_, ?_, ?_, ?_, ?_, fun i h0 h1 => ?_, fun i h0 h1 => ?_⟩
  · rw [zup_off (by omega)]; exact hs1
  · rw [zup_off (by omega)]; exact hs2
  · rw [zup_off (by omega)]; exact hs3
  · rw [zup_off (by omega)]; exact hs4
  · rw [zup_off (by omega)]; exact hs5
  · by_cases e : i = k
    · subst e; rw [zup_at]; omega
    · rw [zup_off (by omega)]; exact hs6 i h0 h1
  · rw [zup_off (by omega)]; exact hs7 i h0 h1
theorem zup_flip {M : Mem} {j : Nat} {k : Int} : zup (zup M j k (1 - M j k)) j k (1 - zup M j k (1 - M j k) j k) = M := by
  rw [zup_at]
  funext a b
  simp only [zup]
  grind
