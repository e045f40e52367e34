/-! ===== bits of whole numbers (the first three rows began with the kit's laws NUMBERS, BITS) ===== -/
theorem zx_and (a b : Nat) : nI a &&& nI b = nI (a &&& b) := by
  apply Int32.toBitVec_inj.1
  show BitVec.ofNat 32 a &&& BitVec.ofNat 32 b = BitVec.ofNat 32 (a &&& b)
  apply BitVec.eq_of_getLsbD_eq
  intro i hi
  simp [hi]
theorem zx_or (a b : Nat) : nI a ||| nI b = nI (a ||| b) := by
  apply Int32.toBitVec_inj.1
  show BitVec.ofNat 32 a ||| BitVec.ofNat 32 b = BitVec.ofNat 32 (a ||| b)
  apply BitVec.eq_of_getLsbD_eq
  intro i hi
  simp [hi]
theorem zx_xor (a b : Nat) : nI a ^^^ nI b = nI (a ^^^ b) := by
  apply Int32.toBitVec_inj.1
  show BitVec.ofNat 32 a ^^^ BitVec.ofNat 32 b = BitVec.ofNat 32 (a ^^^ b)
  apply BitVec.eq_of_getLsbD_eq
  intro i hi
  simp [hi]
theorem zx_of (x : Int32) : ∃ n : Nat, x = nI n := ⟨x.toBitVec.toNat, by
  apply Int32.toBitVec_inj.1
  show x.toBitVec = BitVec.ofNat 32 x.toBitVec.toNat
  simp⟩
theorem zan_nat {a b : Nat} (hb : b < 2147483648) : zan (a : Int) (b : Int) = ((a &&& b : Nat) : Int) := by
  unfold zan
  rw [iI_nI, iI_nI, zx_and, nI_toInt (Nat.lt_of_le_of_lt Nat.and_le_right hb)]
theorem zor_nat {a b : Nat} (ha : a < 256) (hb : b < 256) : zor (a : Int) (b : Int) = ((a ||| b : Nat) : Int) := by
  unfold zor
  have h : a ||| b < 2 ^ 8 := Nat.or_lt_two_pow ha hb
  rw [iI_nI, iI_nI, zx_or, nI_toInt (by omega)]
theorem zxr_nat {a b : Nat} (ha : a < 256) (hb : b < 256) : zxr (a : Int) (b : Int) = ((a ^^^ b : Nat) : Int) := by
  unfold zxr
  have h : a ^^^ b < 2 ^ 8 := Nat.xor_lt_two_pow ha hb
  rw [iI_nI, iI_nI, zx_xor, nI_toInt (by omega)]
theorem zan_bd (a : Int) {m : Int} (hm : 0 ≤ m ∧ m < 2147483648) : 0 ≤ zan a m ∧ zan a m ≤ m := by
  obtain ⟨b, rfl⟩ := Int.eq_ofNat_of_zero_le hm.1
  obtain ⟨n, hn⟩ := zx_of (iI a)
  have h : n &&& b ≤ b := Nat.and_le_right
  unfold zan
  rw [hn, iI_nI, zx_and, nI_toInt (by omega)]
  omega
theorem zor_bd {a b : Int} (ha : 0 ≤ a ∧ a < 256) (hb : 0 ≤ b ∧ b < 256) : 0 ≤ zor a b ∧ zor a b < 256 := by
  obtain ⟨x, rfl⟩ := Int.eq_ofNat_of_zero_le ha.1
  obtain ⟨y, rfl⟩ := Int.eq_ofNat_of_zero_le hb.1
  have h : x ||| y < 2 ^ 8 := Nat.or_lt_two_pow (by omega) (by omega)
  rw [zor_nat (by omega) (by omega)]
  omega
theorem zxr_bd {a b : Int} (ha : 0 ≤ a ∧ a < 256) (hb : 0 ≤ b ∧ b < 256) : 0 ≤ zxr a b ∧ zxr a b < 256 := by
  obtain ⟨x, rfl⟩ := Int.eq_ofNat_of_zero_le ha.1
  obtain ⟨y, rfl⟩ := Int.eq_ofNat_of_zero_le hb.1
  have h : x ^^^ y < 2 ^ 8 := Nat.xor_lt_two_pow (by omega) (by omega)
  rw [zxr_nat (by omega) (by omega)]
  omega
theorem rtZ_bd (m e : Int) : 0 ≤ rtZ m e ∧ rtZ m e < 256 := by
  have := zan_bd (zor (zsl m e) (zsr m (8 - e))) (m := 255) (by omega)
  unfold rtZ
  omega
theorem btZ_bd (m : Int) : 0 ≤ btZ m ∧ btZ m < 256 := by
  have h := rtZ_bd (zan m 85) 7
  have h2 := zan_bd (rtZ (zan m 85) 1) (m := rtZ (zan m 85) 7) (by omega)
  exact zor_bd (by omega) (by omega)
theorem rdZ_any (m : Int) : 0 ≤ rdZ m ∧ rdZ m < 256 := by
  have h := btZ_bd m
  have h2 := zan_bd m (m := btZ m) (by omega)
  unfold rdZ
  omega
/-- the tables of shapes -/
def TbX (M : Mem) : Prop := (∀ s : Int, 0 ≤ s → s < 47 → M 29 s = mkZ s) ∧ (∀ m : Int, 0 ≤ m → m < 256 → M 30 m = shZ m)
def TbR (M : Mem) : Prop := (∀ s : Int, 0 ≤ s → s < 47 → M 43 s = mkZ s) ∧ (∀ m : Int, 0 ≤ m → m < 256 → M 44 m = shZ m)
def miX (m : Int) : Int := zrep (fun d x => if zan (zsr m d) 1 ≠ 0 then zor x (zsl 1 (zan (8 - d) 7)) else x) 8 0
def moZ (s : Int) : Int := shZ (miX (mkZ s))
theorem miX_bd0 : ∀ s : Nat, s < 47 → 0 ≤ miX (mkZ (s : Int)) ∧ miX (mkZ (s : Int)) < 256 := by decide +kernel
theorem miX_bd {s : Int} (hs : 0 ≤ s ∧ s < 47) : 0 ≤ miX (mkZ s) ∧ miX (mkZ s) < 256 := by
  obtain ⟨n, rfl⟩ := Int.eq_ofNat_of_zero_le hs.1
  exact miX_bd0 n (by omega)
def bcS (x : Int) : Int :=
  let x1 := x - zan (zus x 1) 1431655765
  let x2 := zan x1 858993459 + zan (zus x1 2) 858993459
  let x3 := zan (x2 + zus x2 4) 252645135
  let x4 := x3 + zus x3 8
  let x5 := x4 + zus x4 16
  zan x5 63
theorem bcS_eq0 : ∀ n : Nat, n < 256 → bcS (n : Int) = bcZ (n : Int) := by decide +kernel
theorem bcS_eq {x : Int} (hx : 0 ≤ x ∧ x < 256) : bcS x = bcZ x := z256 (P := fun n => bcS n = bcZ n) bcS_eq0 hx
def irT (t : TS) (r c b : Int) : Bool := laT t r c && decide (piT t r c = -1) && decide (rdZ (arT t r c) ≠ rdZ (zxr (arT t r c) b))
def filM (M : Mem) (k : Nat) (n v : Int) : Mem := fun k' z => if k' = k ∧ 0 ≤ z ∧ z < n then v else M k' z
theorem filM_0 {M : Mem} {k : Nat} {v : Int} : M = filM M k 0 v := by
  funext k' z'
  simp only [filM]
  grind
theorem filM_s {M : Mem} {k : Nat} {v : Int} (n : Nat) : zup (filM M k n v) k n v = filM M k ((n + 1 : Nat) : Int) v := by
  funext k' z'
  simp only [filM, zup]
  grind
