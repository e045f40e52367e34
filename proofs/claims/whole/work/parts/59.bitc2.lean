/-! ===== the shapes on the map, as bits ===== -/
def shI (t : TS) (r c : Int) (m : Nat) : Nat := if laT t r c = true then m ||| 2 ^ (saT t r c).toNat else m
def shF (t : TS) : Nat := z2 t (shI t) 0
theorem zlsl_ok : ∀ s : Nat, s < 47 → zlsl 1 (s : Int) = zLn (2 ^ s) := by decide +kernel
theorem shI_y {t : TS} {r c : Int} {m : Nat} (h : laT t r c = true) (hs : 0 ≤ saT t r c ∧ saT t r c < 47) : zLn m ||| zlsl 1 (saT t r c) = zLn (shI t r c m) := by
  obtain ⟨s, hs'⟩ := Int.eq_ofNat_of_zero_le hs.1
  unfold shI
  rw [if_pos h, hs', zlsl_ok s (by omega), zLn_or, Int.toNat_natCast]
theorem shI_n {t : TS} {r c : Int} {m : Nat} (h : laT t r c = false) : shI t r c m = m := by
  unfold shI
  rw [h]
  rfl
theorem saT_la {M : Mem} {k : Nat} (hS : zSk M k) {r c : Int} (h : laT (tsX M k) r c = true) : 0 ≤ saT (tsX M k) r c ∧ saT (tsX M k) r c < 47 := by
  have hb := piT_bd hS r c
  have hr := rdZ_bd (arT_bd (tsX M k) r c)
  unfold saT
  rw [if_pos h]
  split
  · omega
  · unfold rsT rmT; omega
theorem zrep_rel {α β : Type} {f : Nat → α → α} {g : Nat → β → β} {R : α → β → Prop} {a : α} {b : β} (h0 : R a b) : ∀ n : Nat, (∀ i, i < n → ∀ x y, R x y → R (f i x) (g i y)) → R (zrep f n a) (zrep g n b)
  | 0, _ => h0
  | n + 1, h => h n (Nat.lt_succ_self n) _ _ (zrep_rel h0 n (fun i hi => h i (Nat.lt_succ_of_lt hi)))
theorem z2_rel {α β : Type} {t : TS} {f : Int → Int → α → α} {g : Int → Int → β → β} {R : α → β → Prop} {a : α} {b : β} (h0 : R a b) (h : ∀ r c : Int, 0 ≤ r → r < tH t → 0 ≤ c → c < tW t → ∀ x y, R x y → R (f r c x) (g r c y)) : R (z2 t f a) (z2 t g b) :=
  zrep_rel h0 _ (fun i hi x y hxy => zrep_rel hxy _ (fun j hj x y hxy => h i j (by omega) (by omega) (by omega) (by omega) x y hxy))
theorem z2_inv {α : Type} {t : TS} {f : Int → Int → α → α} {P : α → Prop} {a : α} (h0 : P a) (h : ∀ r c : Int, 0 ≤ r → r < tH t → 0 ≤ c → c < tW t → ∀ x, P x → P (f r c x)) : P (z2 t f a) :=
  zrep_inv h0 _ (fun i hi x hx => zrep_inv hx _ (fun j hj x hx => h i j (by omega) (by omega) (by omega) (by omega) x hx))
theorem shF_bit {M : Mem} {k : Nat} (hS : zSk M k) (s : Nat) : (shF (tsX M k)).testBit s = true ↔ 0 < ctT (tsX M k) s := by
  have := z2_rel (t := tsX M k) (f := shI (tsX M k)) (g := fun r c n => n + zbz (decide (saT (tsX M k) r c = s))) (R := fun (m : Nat) (n : Int) => 0 ≤ n ∧ (m.testBit s = true ↔ 0 < n)) (a := 0) (b := 0) ⟨Int.le_refl 0, by rw [Nat.zero_testBit]; constructor <;> intro h <;> first | exact absurd h (by decide) | omega⟩
    (fun r c _ _ _ _ m n h => by
      by_cases hl : laT (tsX M k) r c = true
      · have hs := saT_la hS hl
        unfold shI
        rw [if_pos hl, Nat.testBit_or, Nat.testBit_two_pow]
        by_cases e : saT (tsX M k) r c = s
        · rw [decide_eq_true e, zbz_t]
          refine ⟨by omega, ?_⟩
          rw [decide_eq_true (show (saT (tsX M k) r c).toNat = s by omega), Bool.or_true]
          constructor
          · intro _; omega
          · intro _; rfl
        · rw [decide_eq_false e, zbz_f, Int.add_zero]
          refine ⟨h.1, ?_⟩
          rw [decide_eq_false (show ¬ (saT (tsX M k) r c).toNat = s by omega), Bool.or_false]
          exact h.2
      · have hl2 : laT (tsX M k) r c = false := by simpa using hl
        have e : ¬ saT (tsX M k) r c = s := by
          unfold saT
          rw [hl2]
          show ¬ ((-6 : Int) = s)
          omega
        rw [shI_n hl2]
        rw [decide_eq_false e, zbz_f, Int.add_zero]
        exact h)
  exact this.2
theorem shF_lt {M : Mem} {k : Nat} (hS : zSk M k) : shF (tsX M k) < 2 ^ 47 := by
  refine z2_inv (t := tsX M k) (f := shI (tsX M k)) (P := fun m => m < 2 ^ 47) (show (0 : Nat) < 2 ^ 47 by decide) (fun r c _ _ _ _ m h => ?_)
  by_cases hl : laT (tsX M k) r c = true
  · have hs := saT_la hS hl
    unfold shI
    rw [if_pos hl]
    exact Nat.or_lt_two_pow h (Nat.pow_lt_pow_right (by decide) (by omega))
  · rw [shI_n (by simpa using hl)]
    exact h
theorem shF_sp {M : Mem} {k : Nat} (hS : zSk M k) : ((zpc 64 (shF (tsX M k)) : Nat) : Int) = spA (tsX M k) := by
  have hlt := shF_lt hS
  have key : ∀ n : Nat, ((zpc n (shF (tsX M k)) : Nat) : Int) = zrep (fun (s : Nat) (n : Int) => n + (if 0 < ctT (tsX M k) s then 1 else 0)) n 0 := by
    intro n
    induction n with
    | zero => rfl
    | succ n ih =>
      show ((zpc n (shF (tsX M k)) + shF (tsX M k) / 2 ^ n % 2 : Nat) : Int) = zrep (fun (s : Nat) (n : Int) => n + (if 0 < ctT (tsX M k) s then 1 else 0)) n 0 + (if 0 < ctT (tsX M k) n then 1 else 0)
      rw [Int.natCast_add, ih]
      congr 1
      have hb := shF_bit hS n
      rw [Nat.testBit_eq_decide_div_mod_eq] at hb
      by_cases c : 0 < ctT (tsX M k) n
      · rw [if_pos c, of_decide_eq_true (hb.mpr c)]
        rfl
      · rw [if_neg c]
        have : ¬ shF (tsX M k) / 2 ^ n % 2 = 1 := fun e => c (hb.mp (decide_eq_true e))
        omega
  have hi : ∀ n : Nat, zpc (47 + n) (shF (tsX M k)) = zpc 47 (shF (tsX M k)) := by
    intro n
    induction n with
    | zero => rfl
    | succ n ih =>
      show zpc (47 + n) (shF (tsX M k)) + shF (tsX M k) / 2 ^ (47 + n) % 2 = _
      have h2 : (2 : Nat) ^ 47 ≤ 2 ^ (47 + n) := Nat.pow_le_pow_right (by decide) (by omega)
      rw [ih, Nat.div_eq_of_lt (by omega)]
      rfl
  rw [show (64 : Nat) = 47 + 17 by decide, hi 17, key 47]
  rfl
