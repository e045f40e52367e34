/-! ===== counting the bits of a long ===== -/
def zLn (m : Nat) : Int64 := Int64.ofNat m
theorem zLn_bv (m : Nat) : (zLn m).toBitVec = BitVec.ofNat 64 m := by
  unfold zLn
  simp
theorem zLn_and (a b : Nat) : zLn a &&& zLn b = zLn (a &&& b) := by
  apply Int64.toBitVec_inj.mp
  rw [Int64.toBitVec_and, zLn_bv, zLn_bv, zLn_bv]
  apply BitVec.eq_of_getLsbD_eq
  intro i hi
  simp [BitVec.getLsbD_ofNat, Nat.testBit_and]
theorem zLn_or (a b : Nat) : zLn a ||| zLn b = zLn (a ||| b) := by
  apply Int64.toBitVec_inj.mp
  rw [Int64.toBitVec_or, zLn_bv, zLn_bv, zLn_bv]
  apply BitVec.eq_of_getLsbD_eq
  intro i hi
  simp [BitVec.getLsbD_ofNat, Nat.testBit_or]
theorem zLn_add (a b : Nat) : zLn a + zLn b = zLn (a + b) := by
  apply Int64.toBitVec_inj.mp
  rw [Int64.toBitVec_add, zLn_bv, zLn_bv, zLn_bv]
  apply BitVec.eq_of_toNat_eq
  rw [BitVec.toNat_add, BitVec.toNat_ofNat, BitVec.toNat_ofNat, BitVec.toNat_ofNat]
  omega
theorem zLn_sub {a b : Nat} (h : b ≤ a) (ha : a < 18446744073709551616) : zLn a - zLn b = zLn (a - b) := by
  apply Int64.toBitVec_inj.mp
  rw [Int64.toBitVec_sub, zLn_bv, zLn_bv, zLn_bv]
  apply BitVec.eq_of_toNat_eq
  rw [BitVec.toNat_sub, BitVec.toNat_ofNat, BitVec.toNat_ofNat, BitVec.toNat_ofNat]
  omega
theorem zLn_us {m : Nat} (hm : m < 18446744073709551616) (k : Int) (j : Nat) (hk : ((iI k).toInt64.toUInt64 &&& Int64.toUInt64 63) = UInt64.ofNat j) (hj : j < 64) : zlus (zLn m) k = zLn (m / 2 ^ j) := by
  unfold zlus
  rw [hk]
  apply Int64.toBitVec_inj.mp
  rw [zLn_bv]
  apply BitVec.eq_of_toNat_eq
  show ((zLn m).toUInt64 >>> UInt64.ofNat j).toInt64.toBitVec.toNat = _
  have e1 : ((zLn m).toUInt64 >>> UInt64.ofNat j).toInt64.toBitVec.toNat = ((zLn m).toUInt64 >>> UInt64.ofNat j).toNat := rfl
  rw [e1, UInt64.toNat_shiftRight]
  have e2 : (zLn m).toUInt64.toNat = m := by
    show (zLn m).toBitVec.toNat = m
    rw [zLn_bv, BitVec.toNat_ofNat]
    omega
  have e3 : (UInt64.ofNat j).toNat % 64 = j := by
    rw [UInt64.toNat_ofNat']
    omega
  rw [e2, e3, Nat.shiftRight_eq_div_pow, BitVec.toNat_ofNat]
  have : m / 2 ^ j ≤ m := Nat.div_le_self _ _
  exact (Nat.mod_eq_of_lt (Nat.lt_of_le_of_lt this hm)).symm
theorem zLn_usv {m : Nat} (hm : m < 18446744073709551616) (k : Int) (j v : Nat) (hk : ((iI k).toInt64.toUInt64 &&& Int64.toUInt64 63) = UInt64.ofNat j) (hj : j < 64) (hv : 2 ^ j = v) : zlus (zLn m) k = zLn (m / v) := by
  subst hv
  exact zLn_us hm k j hk hj
/-- two numbers in parts -/
theorem zand_split {k a b c d : Nat} (ha : a < 2 ^ k) (hc : c < 2 ^ k) : (a + 2 ^ k * b) &&& (c + 2 ^ k * d) = (a &&& c) + 2 ^ k * (b &&& d) := by
  have hac : a &&& c < 2 ^ k := Nat.and_lt_two_pow a hc
  rw [Nat.add_comm a, Nat.add_comm c, Nat.add_comm (a &&& c)]
  apply Nat.eq_of_testBit_eq
  intro i
  rw [Nat.testBit_and, Nat.testBit_two_pow_mul_add b ha, Nat.testBit_two_pow_mul_add d hc, Nat.testBit_two_pow_mul_add (b &&& d) hac]
  by_cases h : i < k
  · rw [if_pos h, if_pos h, if_pos h, Nat.testBit_and]
  · rw [if_neg h, if_neg h, if_neg h, Nat.testBit_and]
theorem zand_256 {a b c d : Nat} (ha : a < 256) (hc : c < 256) : (a + 256 * b) &&& (c + 256 * d) = (a &&& c) + 256 * (b &&& d) := zand_split (k := 8) ha hc
def zm5 : Nat → Nat
  | 0 => 0
  | n + 1 => 85 + 256 * zm5 n
def zm3 : Nat → Nat
  | 0 => 0
  | n + 1 => 51 + 256 * zm3 n
def zmf : Nat → Nat
  | 0 => 0
  | n + 1 => 15 + 256 * zmf n
def zn1 (n x : Nat) : Nat := x - ((x / 2) &&& zm5 n)
def zn2 (n x : Nat) : Nat := (x &&& zm3 n) + ((x / 4) &&& zm3 n)
def zn3 (n x : Nat) : Nat := (x + x / 16) &&& zmf n
def zr1 (b : Nat) : Nat := b - ((b / 2) &&& 85)
def zr2 (b : Nat) : Nat := (b &&& 51) + ((b / 4) &&& 51)
def zpc (n m : Nat) : Nat := zrep (fun s c => c + m / 2 ^ s % 2) n 0
theorem zr1_ok : ∀ b : Nat, b < 256 → ∀ t : Nat, t < 2 → ((b / 2 + 128 * t) &&& 85) = (b / 2 &&& 85) ∧ (b / 2 &&& 85) ≤ b := by decide +kernel
theorem zr2_ok : ∀ b : Nat, b < 256 → ∀ t : Nat, t < 4 → ((b / 4 + 64 * t) &&& 51) = (b / 4 &&& 51) ∧ zr2 b < 256 := by decide +kernel
theorem zr3_ok : ∀ b : Nat, b < 256 → ∀ t : Nat, t < 5 → zr2 (zr1 b) + zr2 (zr1 b) / 16 + 16 * t < 256 ∧ ((zr2 (zr1 b) + zr2 (zr1 b) / 16 + 16 * t) &&& 15) = zpc 8 b ∧ zr2 (zr1 b) % 16 < 5 ∧ zpc 8 b ≤ 8 := by decide +kernel
theorem zn1_s (n b x : Nat) (hb : b < 256) : zn1 (n + 1) (b + 256 * x) = zr1 b + 256 * zn1 n x := by
  have e : (b + 256 * x) / 2 = (b / 2 + 128 * (x % 2)) + 256 * (x / 2) := by omega
  have h := zr1_ok b hb (x % 2) (by omega)
  have h2 : (x / 2 &&& zm5 n) ≤ x / 2 := Nat.and_le_left
  unfold zn1 zr1
  show b + 256 * x - ((b + 256 * x) / 2 &&& (85 + 256 * zm5 n)) = _
  rw [e, zand_256 (by omega) (by omega), h.1]
  omega
theorem zn2_s (n b x : Nat) (hb : b < 256) : zn2 (n + 1) (b + 256 * x) = zr2 b + 256 * zn2 n x := by
  have e : (b + 256 * x) / 4 = (b / 4 + 64 * (x % 4)) + 256 * (x / 4) := by omega
  have h := zr2_ok b hb (x % 4) (by omega)
  unfold zn2 zr2
  show (b + 256 * x &&& (51 + 256 * zm3 n)) + ((b + 256 * x) / 4 &&& (51 + 256 * zm3 n)) = _
  rw [e, zand_256 hb (by omega), zand_256 (by omega) (by omega), h.1]
  omega
theorem zn3_s (n b x : Nat) (hb : b < 256) (hx : x % 16 < 5) : zn3 (n + 1) (zr2 (zr1 b) + 256 * x) = zpc 8 b + 256 * zn3 n x := by
  have h := zr3_ok b hb (x % 16) hx
  have h2 := (zr2_ok (zr1 b) (by unfold zr1; omega) 0 (by omega)).2
  have e : zr2 (zr1 b) + 256 * x + (zr2 (zr1 b) + 256 * x) / 16 = (zr2 (zr1 b) + zr2 (zr1 b) / 16 + 16 * (x % 16)) + 256 * (x + x / 16) := by omega
  unfold zn3
  show (zr2 (zr1 b) + 256 * x + (zr2 (zr1 b) + 256 * x) / 16) &&& (15 + 256 * zmf n) = _
  rw [e, zand_256 h.1 (by omega), h.2.1]
def zwb : Nat → Nat → Nat
  | 0, _ => 0
  | n + 1, m => zpc 8 (m % 256) + 256 * zwb n (m / 256)
theorem zwb_eq : ∀ (n m : Nat), m < 256 ^ n → zn3 n (zn2 n (zn1 n m)) = zwb n m ∧ zn2 n (zn1 n m) % 16 < 5
  | 0, m, h => by
    have : m = 0 := by rw [Nat.pow_zero] at h; omega
    subst this
    decide
  | n + 1, m, h => by
    have hm : m / 256 < 256 ^ n := by rw [Nat.pow_succ] at h; omega
    have ih := zwb_eq n (m / 256) hm
    have hb : m % 256 < 256 := by omega
    have e : m = m % 256 + 256 * (m / 256) := by omega
    have e1 : zn1 (n + 1) m = zr1 (m % 256) + 256 * zn1 n (m / 256) := by
      conv => lhs; rw [e]
      exact zn1_s n _ _ hb
    have hr1 : zr1 (m % 256) < 256 := by unfold zr1; omega
    have e2 : zn2 (n + 1) (zn1 (n + 1) m) = zr2 (zr1 (m % 256)) + 256 * zn2 n (zn1 n (m / 256)) := by rw [e1]; exact zn2_s n _ _ hr1
    have h3 := zr3_ok (m % 256) hb 0 (by omega)
    refine ⟨?_, ?_⟩
    · rw [e2, zn3_s n _ _ hb ih.2, ih.1]
      rfl
    · rw [e2]
      omega
/-- the sum of all bytes -/
def zbs : Nat → Nat → Nat
  | 0, _ => 0
  | n + 1, m => zpc 8 (m % 256) + zbs n (m / 256)
theorem zpc_from (g : Nat → Nat) : ∀ (n a : Nat), zrep (fun s c => c + g s) n a = a + zrep (fun s c => c + g s) n 0
  | 0, a => rfl
  | n + 1, a => by
    show zrep (fun s c => c + g s) n a + g n = a + (zrep (fun s c => c + g s) n 0 + g n)
    rw [zpc_from g n a]
    omega
theorem zpc_8 (m : Nat) : zpc 8 (m % 256) = zpc 8 m := by
  unfold zpc
  refine zrep_congr 0 (fun i hi x => ?_)
  have : m % 256 / 2 ^ i % 2 = m / 2 ^ i % 2 := by
    have h8 : i = 0 ∨ i = 1 ∨ i = 2 ∨ i = 3 ∨ i = 4 ∨ i = 5 ∨ i = 6 ∨ i = 7 := by omega
    rcases h8 with rfl | rfl | rfl | rfl | rfl | rfl | rfl | rfl <;> omega
  rw [this]
theorem zbs_eq : ∀ (n m : Nat), zbs n m = zpc (8 * n) m
  | 0, m => rfl
  | n + 1, m => by
    show zpc 8 (m % 256) + zbs n (m / 256) = _
    rw [zbs_eq n, zpc_8]
    unfold zpc
    rw [show 8 * (n + 1) = 8 + 8 * n by omega, zrep_add, zpc_from (fun i => m / 2 ^ (8 + i) % 2)]
    congr 1
    refine zrep_congr 0 (fun i hi x => ?_)
    rw [Nat.pow_add, ← Nat.div_div_eq_div_mul]
theorem zpc8_le (m : Nat) : zpc 8 (m % 256) ≤ 8 := (zr3_ok (m % 256) (by omega) 0 (by omega)).2.2.2
def bl1 (x : Int64) : Int64 := x - (zlus x 1 &&& 6148914691236517205)
def bl2 (x : Int64) : Int64 := (x &&& 3689348814741910323) + (zlus x 2 &&& 3689348814741910323)
def bl3 (x : Int64) : Int64 := (x + zlus x 4) &&& 1085102592571150095
def bl4 (x : Int64) : Int64 := x + zlus x 8
def bl5 (x : Int64) : Int64 := x + zlus x 16
def bl6 (x : Int64) : Int64 := x + zlus x 32
def blA (x : Int64) : Int := zan (bl6 (bl5 (bl4 (bl3 (bl2 (bl1 x)))))).toInt32.toInt 127
theorem zwb_8 (m : Nat) : ∃ p0 p1 p2 p3 p4 p5 p6 p7 : Nat, (p0 ≤ 8 ∧ p1 ≤ 8 ∧ p2 ≤ 8 ∧ p3 ≤ 8) ∧ (p4 ≤ 8 ∧ p5 ≤ 8 ∧ p6 ≤ 8 ∧ p7 ≤ 8) ∧ zwb 8 m = p0 + 256 * (p1 + 256 * (p2 + 256 * (p3 + 256 * (p4 + 256 * (p5 + 256 * (p6 + 256 * (p7 + 256 * 0))))))) ∧ zpc 64 m = p0 + (p1 + (p2 + (p3 + (p4 + (p5 + (p6 + (p7 + 0))))))) :=
  ⟨_, _, _, _, _, _, _, _, ⟨zpc8_le _, zpc8_le _, zpc8_le _, zpc8_le _⟩, ⟨zpc8_le _, zpc8_le _, zpc8_le _, zpc8_le _⟩, rfl, (zbs_eq 8 m).symm⟩
theorem zan_low (a : Nat) (ha : a < 18446744073709551616) : zan (zLn a).toInt32.toInt 127 = ((a % 128 : Nat) : Int) := by
  have e1 : (zLn a).toInt32 = nI (a % 4294967296) := by
    apply Int32.toBitVec_inj.mp
    apply BitVec.eq_of_toNat_eq
    have h1 : (zLn a).toInt32.toBitVec = (zLn a).toBitVec.signExtend 32 := rfl
    rw [h1, zLn_bv, BitVec.signExtend_eq_setWidth_of_le _ (by decide), BitVec.toNat_setWidth, BitVec.toNat_ofNat]
    unfold nI
    simp
  rw [e1]
  have e2 : zan (nI (a % 4294967296)).toInt 127 = zan ((a % 4294967296 : Nat) : Int) ((127 : Nat) : Int) := by
    unfold zan
    rw [iI_val, iI_nI]
    rfl
  rw [e2, zan_nat (by decide)]
  congr 1
  rw [show (127 : Nat) = 2 ^ 7 - 1 by decide, Nat.and_two_pow_sub_one_eq_mod]
  omega
theorem zb_d1 {a b : Nat} (h : a < 256) : (a + 256 * b) / 256 = b := by omega
theorem zb_d2 {a b c : Nat} (h : a < 256) (h2 : b < 256) : (a + 256 * (b + 256 * c)) / 65536 = c := by omega
theorem zb_d4 {a b c d e : Nat} (h : a < 256) (h2 : b < 256) (h3 : c < 256) (h4 : d < 256) : (a + 256 * (b + 256 * (c + 256 * (d + 256 * e)))) / 4294967296 = e := by omega
theorem zb_4 (p0 p1 p2 p3 p4 p5 p6 p7 : Nat) (hA : p0 ≤ 8 ∧ p1 ≤ 8 ∧ p2 ≤ 8 ∧ p3 ≤ 8) (hB : p4 ≤ 8 ∧ p5 ≤ 8 ∧ p6 ≤ 8 ∧ p7 ≤ 8) :
    (p0 + 256 * (p1 + 256 * (p2 + 256 * (p3 + 256 * (p4 + 256 * (p5 + 256 * (p6 + 256 * (p7 + 256 * 0)))))))) + (p0 + 256 * (p1 + 256 * (p2 + 256 * (p3 + 256 * (p4 + 256 * (p5 + 256 * (p6 + 256 * (p7 + 256 * 0)))))))) / 256 = (p0 + p1) + 256 * ((p1 + p2) + 256 * ((p2 + p3) + 256 * ((p3 + p4) + 256 * ((p4 + p5) + 256 * ((p5 + p6) + 256 * ((p6 + p7) + 256 * p7))))))
    ∧ p0 + 256 * (p1 + 256 * (p2 + 256 * (p3 + 256 * (p4 + 256 * (p5 + 256 * (p6 + 256 * (p7 + 256 * 0))))))) < 18446744073709551616 := by
  rw [zb_d1 (by omega)]
  constructor
  · clear hA hB; omega
  · omega
theorem zb_5 (p0 p1 p2 p3 p4 p5 p6 p7 : Nat) (hA : p0 ≤ 8 ∧ p1 ≤ 8 ∧ p2 ≤ 8 ∧ p3 ≤ 8) (hB : p4 ≤ 8 ∧ p5 ≤ 8 ∧ p6 ≤ 8 ∧ p7 ≤ 8) :
    ((p0 + p1) + 256 * ((p1 + p2) + 256 * ((p2 + p3) + 256 * ((p3 + p4) + 256 * ((p4 + p5) + 256 * ((p5 + p6) + 256 * ((p6 + p7) + 256 * p7))))))) + ((p0 + p1) + 256 * ((p1 + p2) + 256 * ((p2 + p3) + 256 * ((p3 + p4) + 256 * ((p4 + p5) + 256 * ((p5 + p6) + 256 * ((p6 + p7) + 256 * p7))))))) / 65536
      = (p0 + p1 + p2 + p3) + 256 * ((p1 + p2 + p3 + p4) + 256 * ((p2 + p3 + p4 + p5) + 256 * ((p3 + p4 + p5 + p6) + 256 * ((p4 + p5 + p6 + p7) + 256 * ((p5 + p6 + p7) + 256 * ((p6 + p7) + 256 * p7))))))
    ∧ (p0 + p1) + 256 * ((p1 + p2) + 256 * ((p2 + p3) + 256 * ((p3 + p4) + 256 * ((p4 + p5) + 256 * ((p5 + p6) + 256 * ((p6 + p7) + 256 * p7)))))) < 18446744073709551616 := by
  rw [zb_d2 (by omega) (by omega)]
  constructor
  · clear hA hB; omega
  · omega
theorem zb_6 (p0 p1 p2 p3 p4 p5 p6 p7 : Nat) (hA : p0 ≤ 8 ∧ p1 ≤ 8 ∧ p2 ≤ 8 ∧ p3 ≤ 8) (hB : p4 ≤ 8 ∧ p5 ≤ 8 ∧ p6 ≤ 8 ∧ p7 ≤ 8) :
    (((p0 + p1 + p2 + p3) + 256 * ((p1 + p2 + p3 + p4) + 256 * ((p2 + p3 + p4 + p5) + 256 * ((p3 + p4 + p5 + p6) + 256 * ((p4 + p5 + p6 + p7) + 256 * ((p5 + p6 + p7) + 256 * ((p6 + p7) + 256 * p7))))))) + ((p0 + p1 + p2 + p3) + 256 * ((p1 + p2 + p3 + p4) + 256 * ((p2 + p3 + p4 + p5) + 256 * ((p3 + p4 + p5 + p6) + 256 * ((p4 + p5 + p6 + p7) + 256 * ((p5 + p6 + p7) + 256 * ((p6 + p7) + 256 * p7))))))) / 4294967296) % 128
      = p0 + (p1 + (p2 + (p3 + (p4 + (p5 + (p6 + (p7 + 0)))))))
    ∧ (p0 + p1 + p2 + p3) + 256 * ((p1 + p2 + p3 + p4) + 256 * ((p2 + p3 + p4 + p5) + 256 * ((p3 + p4 + p5 + p6) + 256 * ((p4 + p5 + p6 + p7) + 256 * ((p5 + p6 + p7) + 256 * ((p6 + p7) + 256 * p7)))))) < 18446744073709551616
    ∧ ((p0 + p1 + p2 + p3) + 256 * ((p1 + p2 + p3 + p4) + 256 * ((p2 + p3 + p4 + p5) + 256 * ((p3 + p4 + p5 + p6) + 256 * ((p4 + p5 + p6 + p7) + 256 * ((p5 + p6 + p7) + 256 * ((p6 + p7) + 256 * p7))))))) + ((p0 + p1 + p2 + p3) + 256 * ((p1 + p2 + p3 + p4) + 256 * ((p2 + p3 + p4 + p5) + 256 * ((p3 + p4 + p5 + p6) + 256 * ((p4 + p5 + p6 + p7) + 256 * ((p5 + p6 + p7) + 256 * ((p6 + p7) + 256 * p7))))))) / 4294967296 < 18446744073709551616 := by
  rw [zb_d4 (by omega) (by omega) (by omega) (by omega)]
  refine ⟨?_, by omega, by omega⟩
  have e : ((p0 + p1 + p2 + p3) + 256 * ((p1 + p2 + p3 + p4) + 256 * ((p2 + p3 + p4 + p5) + 256 * ((p3 + p4 + p5 + p6) + 256 * ((p4 + p5 + p6 + p7) + 256 * ((p5 + p6 + p7) + 256 * ((p6 + p7) + 256 * p7))))))) + ((p4 + p5 + p6 + p7) + 256 * ((p5 + p6 + p7) + 256 * ((p6 + p7) + 256 * p7))) = (p0 + (p1 + (p2 + (p3 + (p4 + (p5 + (p6 + (p7 + 0)))))))) + 128 * (2 * (((p1 + p2 + p3 + p4) + 256 * ((p2 + p3 + p4 + p5) + 256 * ((p3 + p4 + p5 + p6) + 256 * ((p4 + p5 + p6 + p7) + 256 * ((p5 + p6 + p7) + 256 * ((p6 + p7) + 256 * p7)))))) + ((p5 + p6 + p7) + 256 * ((p6 + p7) + 256 * p7)))) := by clear hA hB; omega
  rw [e, Nat.add_mul_mod_self_left, Nat.mod_eq_of_lt (by omega)]
theorem blA_eq {m : Nat} (hm : m < 18446744073709551616) : blA (zLn m) = ((zpc 64 m : Nat) : Int) := by
  have b5 : (6148914691236517205 : Int64) = zLn (zm5 8) := by decide
  have b3 : (3689348814741910323 : Int64) = zLn (zm3 8) := by decide
  have bf : (1085102592571150095 : Int64) = zLn (zmf 8) := by decide
  have v3 : zm3 8 = 3689348814741910323 := by decide
  have vf : zmf 8 = 1085102592571150095 := by decide
  have h1 : bl1 (zLn m) = zLn (zn1 8 m) := by
    unfold bl1
    rw [zLn_usv hm 1 1 2 (by decide) (by decide) (by decide), b5, zLn_and, zLn_sub (Nat.le_trans Nat.and_le_left (Nat.div_le_self m 2)) hm]
    rfl
  have k1 : zn1 8 m < 18446744073709551616 := Nat.lt_of_le_of_lt (Nat.sub_le _ _) hm
  have h2 : bl2 (zLn (zn1 8 m)) = zLn (zn2 8 (zn1 8 m)) := by
    unfold bl2
    rw [zLn_usv k1 2 2 4 (by decide) (by decide) (by decide), b3, zLn_and, zLn_and, zLn_add]
    rfl
  have k2 : zn2 8 (zn1 8 m) < 18446744073709551616 := by
    have a1 : (zn1 8 m &&& zm3 8) ≤ zm3 8 := Nat.and_le_right
    have a2 : (zn1 8 m / 4 &&& zm3 8) ≤ zm3 8 := Nat.and_le_right
    rw [v3] at a1 a2
    unfold zn2
    rw [v3]
    omega
  have h3 : bl3 (zLn (zn2 8 (zn1 8 m))) = zLn (zn3 8 (zn2 8 (zn1 8 m))) := by
    unfold bl3
    rw [zLn_usv k2 4 4 16 (by decide) (by decide) (by decide), bf, zLn_add, zLn_and]
    rfl
  have hw := (zwb_eq 8 m hm).1
  obtain ⟨p0, p1, p2, p3, p4, p5, p6, p7, hA, hB, e1, e2⟩ := zwb_8 m
  unfold blA
  rw [h1, h2, h3, hw, e2, e1]
  have g4 : ∀ w : Nat, w < 18446744073709551616 → bl4 (zLn w) = zLn (w + w / 256) := fun w h => by
    unfold bl4
    rw [zLn_usv h 8 8 256 (by decide) (by decide) (by decide), zLn_add]
  have g5 : ∀ w : Nat, w < 18446744073709551616 → bl5 (zLn w) = zLn (w + w / 65536) := fun w h => by
    unfold bl5
    rw [zLn_usv h 16 16 65536 (by decide) (by decide) (by decide), zLn_add]
  have g6 : ∀ w : Nat, w < 18446744073709551616 → bl6 (zLn w) = zLn (w + w / 4294967296) := fun w h => by
    unfold bl6
    rw [zLn_usv h 32 32 4294967296 (by decide) (by decide) (by decide), zLn_add]
  have n4 := zb_4 p0 p1 p2 p3 p4 p5 p6 p7 hA hB
  have n5 := zb_5 p0 p1 p2 p3 p4 p5 p6 p7 hA hB
  have n6 := zb_6 p0 p1 p2 p3 p4 p5 p6 p7 hA hB
  rw [g4 _ n4.2, n4.1, g5 _ n5.2, n5.1, g6 _ n6.2.1, zan_low _ n6.2.2]
  exact congrArg (fun q : Nat => (q : Int)) n6.1
