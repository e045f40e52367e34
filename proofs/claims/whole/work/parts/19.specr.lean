/-! ===== the reference's numbers as a map ===== -/
def zRf (f : Int → Int) : Prop := 1 ≤ f 0 ∧ f 0 ≤ 12 ∧ 1 ≤ f 1 ∧ f 1 ≤ 12 ∧ (f 2 = 0 ∨ f 2 = 1) ∧ (∀ i : Int, 0 ≤ i → i < 144 → f (3 + i) = 0 ∨ f (3 + i) = 1) ∧ (∀ i : Int, 0 ≤ i → i < 144 → f (147 + i) = -6 ∨ (0 ≤ f (147 + i) ∧ f (147 + i) < 47))
theorem zhw {h w : Int} (h1 : 1 ≤ h) (h2 : h ≤ 12) (w1 : 1 ≤ w) (w2 : w ≤ 12) : 1 ≤ h * w ∧ h * w ≤ 144 := by
  constructor
  · have := Int.mul_le_mul h1 w1 (by omega) (by omega)
    omega
  · have := Int.mul_le_mul h2 w2 (by omega) (by omega)
    omega
theorem zix {h w r c : Int} (hr : 0 ≤ r ∧ r < h) (hc : 0 ≤ c ∧ c < w) : 0 ≤ w * r + c ∧ w * r + c < h * w ∧ (w * r + c) / w = r ∧ (w * r + c) % w = c := by
  have e := (Int.ediv_emod_unique (a := w * r + c) (b := w) (r := c) (q := r) (by omega)).mpr ⟨by omega, hc.1, hc.2⟩
  have h1 : 0 ≤ w * r := Int.mul_nonneg (by omega) hr.1
  have h2 : w * (r + 1) ≤ w * h := Int.mul_le_mul_of_nonneg_left (by omega) (by omega)
  have h3 : w * (r + 1) = w * r + w := by rw [Int.mul_add, Int.mul_one]
  have h4 : w * h = h * w := Int.mul_comm w h
  exact ⟨by omega, by omega, e.1, e.2⟩
theorem zkx {h w k : Int} (hk : 0 ≤ k ∧ k < h * w) (hw : 1 ≤ w) : 0 ≤ k / w ∧ k / w < h ∧ 0 ≤ k % w ∧ k % w < w ∧ w * (k / w) + k % w = k :=
  ⟨Int.ediv_nonneg hk.1 (by omega), Int.ediv_lt_of_lt_mul (by omega) hk.2, Int.emod_nonneg k (by omega), Int.emod_lt_of_pos k (by omega), Int.mul_ediv_add_emod k w⟩
theorem inT_Z {f : Int → Int} {r c : Int} : inT (tsZ f) r c = decide (0 ≤ r ∧ r < f 0 ∧ 0 ≤ c ∧ c < f 1) := rfl
theorem laT_Z {f : Int → Int} {r c : Int} : laT (tsZ f) r c = if 0 ≤ r ∧ r < f 0 ∧ 0 ≤ c ∧ c < f 1 then decide (f (3 + (f 1 * r + c)) = 1) else decide (f 2 = 1) := by
  by_cases h : 0 ≤ r ∧ r < f 0 ∧ 0 ≤ c ∧ c < f 1
  · have hi : inT (tsZ f) r c = true := by rw [inT_Z]; exact decide_eq_true h
    unfold laT
    rw [hi, if_pos rfl, if_pos h]
    show (decide (0 ≤ r ∧ r < f 0 ∧ 0 ≤ c ∧ c < f 1) && decide (f (3 + (f 1 * r + c)) = 1)) = _
    rw [decide_eq_true h, Bool.true_and]
  · have hi : inT (tsZ f) r c = false := by rw [inT_Z]; exact decide_eq_false h
    unfold laT
    rw [hi, if_neg h]
    rfl
theorem piT_Z {f : Int → Int} {r c : Int} : piT (tsZ f) r c = if 0 ≤ r ∧ r < f 0 ∧ 0 ≤ c ∧ c < f 1 then (if f (147 + (f 1 * r + c)) = -6 then -1 else f (147 + (f 1 * r + c))) else -1 := by
  by_cases h : 0 ≤ r ∧ r < f 0 ∧ 0 ≤ c ∧ c < f 1
  · have hi : inT (tsZ f) r c = true := by rw [inT_Z]; exact decide_eq_true h
    unfold piT
    rw [hi, if_pos rfl]
    rfl
  · have hi : inT (tsZ f) r c = false := by rw [inT_Z]; exact decide_eq_false h
    unfold piT
    rw [hi, if_neg h]
    rfl
/-- a tile by its place among all -/
theorem laT_k {f : Int → Int} (hf : zRf f) {k : Int} (hk : 0 ≤ k ∧ k < f 0 * f 1) : laT (tsZ f) (k / f 1) (k % f 1) = decide (f (3 + k) = 1) := by
  obtain ⟨h1, h2, h3, h4, -⟩ := hf
  have x := zkx hk (by omega)
  rw [laT_Z, if_pos ⟨x.1, x.2.1, x.2.2.1, x.2.2.2.1⟩, x.2.2.2.2]
theorem piT_k {f : Int → Int} (hf : zRf f) {k : Int} (hk : 0 ≤ k ∧ k < f 0 * f 1) : piT (tsZ f) (k / f 1) (k % f 1) = if f (147 + k) = -6 then -1 else f (147 + k) := by
  obtain ⟨h1, h2, h3, h4, -⟩ := hf
  have x := zkx hk (by omega)
  rw [piT_Z, if_pos ⟨x.1, x.2.1, x.2.2.1, x.2.2.2.1⟩, x.2.2.2.2]
theorem inT_k {f : Int → Int} (hf : zRf f) {k : Int} (hk : 0 ≤ k ∧ k < f 0 * f 1) : inT (tsZ f) (k / f 1) (k % f 1) = true := by
  obtain ⟨h1, h2, h3, h4, -⟩ := hf
  have x := zkx hk (by omega)
  rw [inT_Z]
  exact decide_eq_true ⟨x.1, x.2.1, x.2.2.1, x.2.2.2.1⟩
/-- a map that is in order: pins on land alone, and of shapes -/
def TOk (t : TS) : Prop := 1 ≤ tH t ∧ tH t ≤ 12 ∧ 1 ≤ tW t ∧ tW t ≤ 12 ∧ (∀ r c : Int, piT t r c = -1 ∨ (0 ≤ piT t r c ∧ piT t r c < 47 ∧ laT t r c = true))
def watR (M : Mem) (n : Int) : Mem := fun k' z => if k' = 39 ∧ 3 ≤ z ∧ z < 3 + n then 0 else if k' = 39 ∧ 147 ≤ z ∧ z < 147 + n then -6 else M k' z
theorem watR_0 {M : Mem} : M = watR M 0 := by
  funext k' z'
  simp only [watR]
  grind
theorem watR_s {M : Mem} (n : Nat) (hn : n < 144) : zup (zup (watR M n) 39 (3 + (n : Int)) 0) 39 (147 + (n : Int)) (-6) = watR M ((n + 1 : Nat) : Int) := by
  funext k' z'
  simp only [watR, zup]
  grind
def biZ (m d : Int) : Int := zan (zsr m (zan d 7)) 1
theorem biZ_bd (m d : Int) : 0 ≤ biZ m d ∧ biZ m d ≤ 1 := zan_bd _ (by omega)
def rdR (m : Int) : Int := zrep (fun d x => if biZ m (2 * d + 1 - 1) + biZ m (2 * d + 1 + 1) = 2 then x else zan x (zxr (zsl 1 (2 * d + 1)) (-1))) 4 m
theorem rdR_eq0 : ∀ n : Nat, n < 256 → rdR (n : Int) = rdZ (n : Int) := by decide +kernel
theorem rdR_eq {m : Int} (hm : 0 ≤ m ∧ m < 256) : rdR m = rdZ m := z256 (P := fun n => rdR n = rdZ n) rdR_eq0 hm
def tuR (s q : Int) : Int := shZ (zor (zan (zsl (mkZ s) (2 * q)) 255) (zsr (zsl (mkZ s) (2 * q)) 8))
theorem tuR_eq0 : ∀ s : Nat, s < 47 → ∀ q : Nat, q < 4 → zor (zan (zsl (mkZ s) (2 * q)) 255) (zsr (zsl (mkZ s) (2 * q)) 8) = rtZ (mkZ s) (2 * q) := by decide +kernel
theorem tuR_eq {s q : Int} (hs : 0 ≤ s ∧ s < 47) (hq : 0 ≤ q ∧ q ≤ 3) : zor (zan (zsl (mkZ s) (2 * q)) 255) (zsr (zsl (mkZ s) (2 * q)) 8) = rtZ (mkZ s) (2 * q) := by
  obtain ⟨a, rfl⟩ := Int.eq_ofNat_of_zero_le hs.1
  obtain ⟨b, rfl⟩ := Int.eq_ofNat_of_zero_le hq.1
  exact tuR_eq0 a (by omega) b (by omega)
def miR (m : Int) : Int := zrep (fun d x => zor x (zsl (biZ m (8 - d)) d)) 8 0
theorem miR_eq0 : ∀ s : Nat, s < 47 → miR (mkZ (s : Int)) = miX (mkZ (s : Int)) := by decide +kernel
theorem miR_eq {s : Int} (hs : 0 ≤ s ∧ s < 47) : miR (mkZ s) = miX (mkZ s) := by
  obtain ⟨a, rfl⟩ := Int.eq_ofNat_of_zero_le hs.1
  exact miR_eq0 a (by omega)
theorem bcZ_0 : bcZ 0 = 0 := by decide
theorem zor_0 {a : Int} (ha : 0 ≤ a ∧ a < 256) : zor a 0 = a := by
  obtain ⟨x, rfl⟩ := Int.eq_ofNat_of_zero_le ha.1
  have := zor_nat (a := x) (b := 0) (by omega) (by omega)
  rw [show ((0 : Nat) : Int) = 0 from rfl] at this
  rw [this, Nat.or_zero]
theorem zxr_self {a : Int} (ha : 0 ≤ a ∧ a < 256) : zxr a a = 0 := by
  obtain ⟨x, rfl⟩ := Int.eq_ofNat_of_zero_le ha.1
  rw [zxr_nat (by omega) (by omega), Nat.xor_self]
  rfl
/-- four sides, each once -/
def coT (t : TS) (r c : Int) : Int := if laT t r c then zrep (fun (d : Nat) (x : Int) => x + (if laT t (r + zrow (2 * d)) (c + zcol (2 * d)) then 0 else 1)) 4 0 else 0
def z8 (b0 b1 b2 b3 b4 b5 b6 b7 : Bool) : Nat → Bool := fun d => if d = 0 then b0 else if d = 1 then b1 else if d = 2 then b2 else if d = 3 then b3 else if d = 4 then b4 else if d = 5 then b5 else if d = 6 then b6 else b7
theorem z8_of (f : Nat → Bool) : zmk f 8 = zmk (z8 (f 0) (f 1) (f 2) (f 3) (f 4) (f 5) (f 6) (f 7)) 8 := rfl
theorem coX_8 : ∀ b0 b1 b2 b3 b4 b5 b6 b7 : Bool, bcZ (zan (zxr (zmk (z8 b0 b1 b2 b3 b4 b5 b6 b7) 8) (-1)) 85) = (((0 + (if b0 then (0 : Int) else 1)) + (if b2 then 0 else 1)) + (if b4 then 0 else 1)) + (if b6 then 0 else 1) := by decide +kernel
theorem coX_eq (t : TS) (r c : Int) : coX t r c = coT t r c := by
  unfold coX coT
  rw [arT, z8_of, coX_8]
  rfl
theorem z2_congr {α : Type} {t : TS} {f g : Int → Int → α → α} (a : α) (h : ∀ r c : Int, 0 ≤ r → r < tH t → 0 ≤ c → c < tW t → ∀ x, f r c x = g r c x) : z2 t f a = z2 t g a := by
  unfold z2
  refine zrep_congr a (fun r hr x => zrep_congr x (fun c hc y => ?_))
  exact h r c (by omega) (by omega) (by omega) (by omega) y
theorem coA_eq (t : TS) : coA t = z2 t (fun r c n => n + coT t r c) 0 := z2_congr 0 (fun r c _ _ _ _ x => by rw [coX_eq])
theorem faT_of {t : TS} {r c : Int} (hla : laT t r c = true) : bcZ (zxr (mkZ (saT t r c)) (mkZ (rsT t r c))) = faT t r c := by
  have e : mkZ (rsT t r c) = rmT t r c := (rdZ_bd (arT_bd t r c)).2.2.2.2.2.2.2.1
  unfold faT saT
  rw [if_pos hla]
  by_cases h : piT t r c ≠ -1
  · rw [if_pos h, if_pos h, e]
  · rw [if_neg h, if_neg h, e, show zxr (rmT t r c) (rmT t r c) = 0 from zxr_self (rdZ_any _), bcZ_0]
