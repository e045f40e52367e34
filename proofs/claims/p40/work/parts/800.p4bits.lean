/-! ===== p40: bits of any 32 ===== -/
def zbt (v : Int) (k : Nat) : Bool := (iI v).toBitVec.getLsbD k
theorem zbt_an (a b : Int) (k : Nat) : zbt (zan a b) k = (zbt a k && zbt b k) := by
  unfold zbt zan
  rw [iI_val, Int32.toBitVec_and, BitVec.getLsbD_and]
theorem zbt_or (a b : Int) (k : Nat) : zbt (zor a b) k = (zbt a k || zbt b k) := by
  unfold zbt zor
  rw [iI_val, Int32.toBitVec_or, BitVec.getLsbD_or]
theorem zbt_xr (a b : Int) (k : Nat) : zbt (zxr a b) k = (zbt a k != zbt b k) := by
  unfold zbt zxr
  rw [iI_val, Int32.toBitVec_xor, BitVec.getLsbD_xor]
theorem zbt_not (a : Int) {k : Nat} (hk : k < 32) : zbt (zxr a (-1)) k = !zbt a k := by
  rw [zbt_xr]
  have h : ∀ k : Nat, k < 32 → zbt (-1) k = true := by decide
  rw [h k hk]
  cases zbt a k <;> rfl
theorem zsh_n : ∀ s : Nat, s < 32 → ((iI (s : Int) &&& 31).toBitVec.smod 32).toNat = s := by decide
theorem zbt_sr (a : Int) {s k : Nat} (h : s + k < 32) : zbt (zsr a s) k = zbt a (s + k) := by
  unfold zbt zsr
  rw [iI_val, Int32.toBitVec_shiftRight, BitVec.getLsbD_sshiftRight', zsh_n s (by omega), if_pos h, decide_eq_false (by omega : ¬ 32 ≤ k), Bool.not_false, Bool.true_and]
theorem zbt_sl (a : Int) {s k : Nat} (hs : s < 32) (hk : k < 32) : zbt (zsl a s) k = (decide (s ≤ k) && zbt a (k - s)) := by
  unfold zbt zsl
  rw [iI_val, Int32.toBitVec_shiftLeft, BitVec.shiftLeft_eq', BitVec.getLsbD_shiftLeft, zsh_n s hs, decide_eq_true hk, Bool.true_and]
  congr 1
  by_cases h : s ≤ k
  · rw [decide_eq_true h, decide_eq_false (by omega)]; rfl
  · rw [decide_eq_false h, decide_eq_true (by omega)]; rfl
theorem zbt_ext {a b : Int} (h : ∀ k : Nat, k < 32 → zbt a k = zbt b k) : iI a = iI b := by
  apply Int32.toBitVec_inj.1
  apply BitVec.eq_of_getLsbD_eq
  intro i hi
  exact h i hi
theorem zbt_1 : ∀ k : Nat, k < 32 → zbt 1 k = decide (k = 0) := by decide
theorem zbt_0 : ∀ k : Nat, k < 32 → zbt 0 k = false := by decide
theorem zbt_63 : ∀ k : Nat, k < 32 → zbt 63 k = decide (k < 6) := by decide
theorem zan_1 (a : Int) : zan a 1 = zbz (zbt a 0) := by
  have e : iI (zan a 1) = iI (zbz (zbt a 0)) := by
    apply zbt_ext
    intro k hk
    rw [zbt_an, zbt_1 k hk]
    by_cases h : k = 0
    · subst h
      cases zbt a 0 <;> decide
    · rw [decide_eq_false h, Bool.and_false]
      cases zbt a 0
      · exact (zbt_0 k hk).symm
      · exact ((zbt_1 k hk).trans (decide_eq_false h)).symm
  have h1 := zan_bd a (m := 1) (by omega)
  have h2 := zbz_bd (zbt a 0)
  have := congrArg Int32.toInt e
  rw [iI_toInt (by omega), iI_toInt (by omega)] at this
  exact this
theorem zan_63 {a b : Int} (h : ∀ k : Nat, k < 6 → zbt a k = zbt b k) : zan a 63 = zan b 63 := by
  have e : iI (zan a 63) = iI (zan b 63) := by
    apply zbt_ext
    intro k hk
    rw [zbt_an, zbt_an, zbt_63 k hk]
    by_cases h6 : k < 6
    · rw [h k h6]
    · rw [decide_eq_false h6, Bool.and_false, Bool.and_false]
  have h1 := zan_bd a (m := 63) (by omega)
  have h2 := zan_bd b (m := 63) (by omega)
  have := congrArg Int32.toInt e
  rw [iI_toInt (by omega), iI_toInt (by omega)] at this
  exact this
theorem zan_63v0 : ∀ n : Nat, n < 64 → zan (n : Int) 63 = (n : Int) := by decide
theorem zan_63v {x : Int} (h : 0 ≤ x ∧ x < 64) : zan x 63 = x := by
  obtain ⟨n, rfl⟩ := Int.eq_ofNat_of_zero_le h.1
  exact zan_63v0 n (by omega)
theorem zbt_lo0 : ∀ n : Nat, n < 64 → ∀ k : Nat, k < 32 → 6 ≤ k → zbt (n : Int) k = false := by decide +kernel
/-- the law's rows of bits: a tile's bit, a tile's pin; laying them -/
def laZ (f : Int → Int) (r c : Int) : Int := zan (zsr (f (r + 1)) (c + 1)) 1
def piZ (f : Int → Int) (r c : Int) : Int := zan (zsr (f (3 * r + c / 4)) (6 * (c % 4))) 63
def lyV (v c x : Int) : Int := zor (zan v (zxr (zsl 1 (c + 1)) (-1))) (zsl x (c + 1))
def lpV (v c x : Int) : Int := zor (zan v (zxr (zsl 63 (6 * (c % 4))) (-1))) (zsl x (6 * (c % 4)))
theorem laZ_bt {f : Int → Int} {r c : Int} (hc : -1 ≤ c ∧ c ≤ 20) : laZ f r c = zbz (zbt (f (r + 1)) (c + 1).toNat) := by
  obtain ⟨n, hn⟩ := Int.eq_ofNat_of_zero_le (show 0 ≤ c + 1 by omega)
  unfold laZ
  rw [hn, zan_1, zbt_sr _ (by omega), Int.toNat_natCast, Nat.add_zero]
theorem laZ_01 (f : Int → Int) (r c : Int) : laZ f r c = 0 ∨ laZ f r c = 1 := by
  have := zan_bd (zsr (f (r + 1)) (c + 1)) (m := 1) (by omega)
  unfold laZ
  omega
theorem lyV_bt {v c x : Int} {k : Nat} (hc : 0 ≤ c ∧ c ≤ 12) (hx : x = 0 ∨ x = 1) (hk : k < 32) : zbt (lyV v c x) k = if (k : Int) = c + 1 then decide (x = 1) else zbt v k := by
  obtain ⟨n, hn⟩ := Int.eq_ofNat_of_zero_le (show 0 ≤ c + 1 by omega)
  unfold lyV
  rw [hn, zbt_or, zbt_an, zbt_not _ hk, zbt_sl _ (by omega) hk, zbt_sl _ (by omega) hk]
  by_cases h : k = n
  · subst h
    rw [if_pos rfl, decide_eq_true (Nat.le_refl _), Nat.sub_self]
    rcases hx with rfl | rfl <;> cases zbt v k <;> decide
  · rw [if_neg (by omega)]
    by_cases h2 : n ≤ k
    · rw [decide_eq_true h2, zbt_1 _ (by omega), decide_eq_false (by omega)]
      have : zbt x (k - n) = false := by
        rcases hx with rfl | rfl
        · exact zbt_0 _ (by omega)
        · rw [zbt_1 _ (by omega), decide_eq_false (by omega)]
      rw [this]
      cases zbt v k <;> rfl
    · rw [decide_eq_false h2]
      cases zbt v k <;> rfl
theorem piZ_bd (f : Int → Int) (r c : Int) : 0 ≤ piZ f r c ∧ piZ f r c ≤ 63 := zan_bd _ (by omega)
theorem lpV_bt {v c x : Int} {k : Nat} (hc : 0 ≤ c) (hx : 0 ≤ x ∧ x < 64) (hk : k < 24) : zbt (lpV v c x) k = if 6 * (c % 4) ≤ (k : Int) ∧ (k : Int) < 6 * (c % 4) + 6 then zbt x (k - 6 * (c % 4).toNat) else zbt v k := by
  obtain ⟨q, hq⟩ := Int.eq_ofNat_of_zero_le (show 0 ≤ c % 4 by omega)
  obtain ⟨y, rfl⟩ := Int.eq_ofNat_of_zero_le hx.1
  have hq4 : q < 4 := by omega
  have e6 : (6 * (q : Int)) = ((6 * q : Nat) : Int) := by omega
  unfold lpV
  rw [hq, e6, zbt_or, zbt_an, zbt_not _ (by omega), zbt_sl _ (by omega) (by omega), zbt_sl _ (by omega) (by omega), Int.toNat_natCast, zbt_63 _ (by omega)]
  by_cases h1 : 6 * q ≤ k
  · by_cases h2 : k - 6 * q < 6
    · rw [decide_eq_true h1, decide_eq_true h2, if_pos (by omega)]
      cases zbt v k <;> cases zbt (y : Int) (k - 6 * q) <;> rfl
    · rw [decide_eq_true h1, decide_eq_false h2, if_neg (by omega), zbt_lo0 y (by omega) (k - 6 * q) (by omega) (by omega)]
      cases zbt v k <;> rfl
  · rw [decide_eq_false h1, if_neg (by omega)]
    cases zbt v k <;> rfl
/-- laid: another tile's bit stays -/
theorem laZ_ly {f : Int → Int} {r c r' c' x : Int} (hc : 0 ≤ c ∧ c ≤ 12) (hc' : -1 ≤ c' ∧ c' ≤ 12) (hx : x = 0 ∨ x = 1) : laZ (fun z => if z = r + 1 then lyV (f (r + 1)) c x else f z) r' c' = if r' = r ∧ c' = c then x else laZ f r' c' := by
  rw [laZ_bt (by omega), laZ_bt (by omega)]
  by_cases hr : r' = r
  · subst hr
    simp only [if_true, true_and]
    rw [lyV_bt hc hx (by omega)]
    by_cases h : c' = c
    · subst h
      rw [if_pos (by omega), if_pos rfl]
      rcases hx with rfl | rfl <;> rfl
    · rw [if_neg (by omega), if_neg h]
  · rw [if_neg (by omega : ¬ (r' + 1 = r + 1)), if_neg (fun h => hr h.1)]
theorem piZ_lp {f : Int → Int} {r c r' c' x : Int} (hc : 0 ≤ c ∧ c < 12) (hc' : 0 ≤ c' ∧ c' < 12) (hx : 0 ≤ x ∧ x < 64) : piZ (fun z => if z = 3 * r + c / 4 then lpV (f (3 * r + c / 4)) c x else f z) r' c' = if r' = r ∧ c' = c then x else piZ f r' c' := by
  unfold piZ
  show zan (zsr (if 3 * r' + c' / 4 = 3 * r + c / 4 then lpV (f (3 * r + c / 4)) c x else f (3 * r' + c' / 4)) (6 * (c' % 4))) 63 = if r' = r ∧ c' = c then x else zan (zsr (f (3 * r' + c' / 4)) (6 * (c' % 4))) 63
  obtain ⟨q, hq⟩ := Int.eq_ofNat_of_zero_le (show 0 ≤ c' % 4 by omega)
  have e6 : (6 * (c' % 4)) = ((6 * q : Nat) : Int) := by omega
  by_cases h1 : 3 * r' + c' / 4 = 3 * r + c / 4
  · have hr : r' = r := by omega
    rw [if_pos h1]
    subst hr
    by_cases h2 : c' = c
    · subst h2
      rw [if_pos ⟨rfl, rfl⟩]
      refine (zan_63 (b := x) fun k hk => ?_).trans (zan_63v hx)
      rw [e6, zbt_sr _ (by omega), lpV_bt (by omega) hx (by omega), if_pos (by omega)]
      congr 1
      omega
    · rw [if_neg (fun h => h2 h.2)]
      refine zan_63 fun k hk => ?_
      rw [e6, zbt_sr _ (by omega), zbt_sr _ (by omega), lpV_bt (by omega) hx (by omega), if_neg (by omega), h1]
  · rw [if_neg h1, if_neg (fun h => h1 (by rw [h.1, h.2]))]
