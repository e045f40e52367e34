/-! ===== p40: what the law's own rows say, in the words of a map ===== -/
theorem ztm_fr {a : Nat} (h : a = 38 ∨ a = 41) : ztm a = none := by rcases h with rfl | rfl <;> rfl
theorem zar_fr {a : Nat} (h : a = 38 ∨ a = 41) : zar a = (0, 14) := by rcases h with rfl | rfl <;> rfl
theorem ztm_pn {a : Nat} (h : a = 39 ∨ a = 42) : ztm a = none := by rcases h with rfl | rfl <;> rfl
theorem zar_pn {a : Nat} (h : a = 39 ∨ a = 42) : zar a = (0, 36) := by rcases h with rfl | rfl <;> rfl
/-- the frame's bits are the map's and what is outside -/
def p4F (f : Int → Int) (t : TS) : Prop := ∀ r c : Int, -1 ≤ r → r ≤ tH t → -1 ≤ c → c ≤ tW t → laZ f r c = zbz (laT t r c)
def pcT (t : TS) (r c : Int) : Int := if piT t r c = -1 then 63 else piT t r c
def p4P (f : Int → Int) (t : TS) : Prop := ∀ r c : Int, inT t r c = true → piZ f r c = pcT t r c
def p4T (f : Int → Int) (t : TS) : Prop := f 0 = tH t ∧ f 1 = tW t ∧ f 2 = zbz (tO t)
def p4M (M : Mem) (t : TS) : Prop := p4F (M 38) t ∧ p4P (M 39) t ∧ p4T (M 40) t
def mhT (t : TS) (r c : Int) : Int := if piT t r c = -1 then rmT t r c else mkZ (piT t r c)
theorem inT_bd {t : TS} {r c : Int} (h : inT t r c = true) : 0 ≤ r ∧ r < tH t ∧ 0 ≤ c ∧ c < tW t := of_decide_eq_true h
theorem inT_of {t : TS} {r c : Int} (h : 0 ≤ r ∧ r < tH t ∧ 0 ≤ c ∧ c < tW t) : inT t r c = true := decide_eq_true h
theorem p4_pc {t : TS} (hO : TOk t) (r c : Int) : 0 ≤ pcT t r c ∧ pcT t r c ≤ 63 ∧ (pcT t r c < 63 ↔ piT t r c ≠ -1) ∧ (pcT t r c ≠ 63 → pcT t r c = piT t r c ∧ 0 ≤ piT t r c ∧ piT t r c < 47) := by
  rcases hO.2.2.2.2 r c with h | ⟨h1, h2, -⟩
  · unfold pcT
    rw [if_pos h]
    exact ⟨by omega, by omega, ⟨fun h' => by omega, fun h' => absurd h h'⟩, fun h' => absurd rfl h'⟩
  · have h3 : piT t r c ≠ -1 := by omega
    unfold pcT
    rw [if_neg h3]
    exact ⟨by omega, by omega, ⟨fun _ => h3, fun _ => by omega⟩, fun _ => ⟨rfl, h1, h2⟩⟩
theorem mhT_bd {t : TS} (hO : TOk t) (r c : Int) : 0 ≤ mhT t r c ∧ mhT t r c < 256 := by
  unfold mhT
  split
  · exact rdZ_any _
  · rename_i h
    have h2 := (hO.2.2.2.2 r c).resolve_left h
    have := mkZ_bd ⟨h2.1, h2.2.1⟩
    omega
theorem zslb : ∀ d : Nat, d < 8 → ∀ b : Bool, zsl (zbz b) (d : Int) = if b then 2 ^ d else 0 := by decide
-- shapes
def rgE (m : Int) : Int := zor (zor (zor (zor (zor (zor (zor (zan m 1) (zsl (zan (zsr m 2) 1) 2)) (zsl (zan (zsr m 4) 1) 4)) (zsl (zan (zsr m 6) 1) 6)) (zan m 2 * zan m 1 * zan (zsr m 2) 1)) (zan m 8 * zan (zsr m 2) 1 * zan (zsr m 4) 1)) (zan m 32 * zan (zsr m 4) 1 * zan (zsr m 6) 1)) (zan m 128 * zan (zsr m 6) 1 * zan m 1)
theorem rgE_eq0 : ∀ n : Nat, n < 256 → rgE (n : Int) = rdZ (n : Int) := by decide +kernel
theorem rgE_eq {m : Int} (hm : 0 ≤ m ∧ m < 256) : rgE m = rdZ m := z256 (P := fun n => rgE n = rdZ n) rgE_eq0 hm
def zct (n : Nat) : Int := zrep (fun (k : Nat) (x : Int) => x + (if rdZ (k : Int) = (k : Int) then 1 else 0)) n 0
theorem zct_sh0 : ∀ n : Nat, n < 256 → rdZ (n : Int) = (n : Int) → zct n = shZ (n : Int) := by decide +kernel
theorem zct_sh {m : Int} (hm : 0 ≤ m ∧ m < 256) (hr : rdZ m = m) : zct m.toNat = shZ m := by
  obtain ⟨n, rfl⟩ := Int.eq_ofNat_of_zero_le hm.1
  rw [Int.toNat_natCast]
  exact zct_sh0 n (by omega) hr
def zctN (n : Nat) : Nat := zrep (fun (k : Nat) (x : Nat) => x + (if rdZ (k : Int) = (k : Int) then 1 else 0)) n 0
theorem zct_N : ∀ n : Nat, zct n = ((zctN n : Nat) : Int)
  | 0 => rfl
  | n + 1 => by
    show zct n + (if rdZ (n : Int) = (n : Int) then 1 else 0) = ((zctN n + (if rdZ (n : Int) = (n : Int) then 1 else 0) : Nat) : Int)
    rw [zct_N n]
    split <;> simp
theorem zct_up : ∀ n : Nat, rdZ ((n : Nat) : Int) = (n : Int) → zct (n + 1) = zct n + 1 := fun n h => by
  show zct n + (if rdZ (n : Int) = (n : Int) then 1 else 0) = zct n + 1
  rw [if_pos h]
theorem zct_st : ∀ n : Nat, rdZ ((n : Nat) : Int) ≠ (n : Int) → zct (n + 1) = zct n := fun n h => by
  show zct n + (if rdZ (n : Int) = (n : Int) then 1 else 0) = zct n
  rw [if_neg h, Int.add_zero]
theorem zct_le : ∀ n : Nat, 0 ≤ zct n ∧ zct n ≤ (n : Int)
  | 0 => ⟨Int.le_refl _, Int.le_refl _⟩
  | n + 1 => by
    have h := zct_le n
    by_cases hr : rdZ (n : Int) = (n : Int)
    · rw [zct_up n hr]; omega
    · rw [zct_st n hr]; omega
theorem zct_mono (n : Nat) : ∀ m : Nat, zct n ≤ zct (n + m)
  | 0 => Int.le_refl _
  | m + 1 => by
    have h := zct_mono n m
    have : zct (n + m + 1) = zct (n + m) ∨ zct (n + m + 1) = zct (n + m) + 1 := by
      by_cases hr : rdZ ((n + m : Nat) : Int) = ((n + m : Nat) : Int)
      · exact Or.inr (zct_up _ hr)
      · exact Or.inl (zct_st _ hr)
    show zct n ≤ zct (n + m + 1)
    omega
theorem mk_at0 : ∀ s : Nat, s < 47 → zct (mkZ (s : Int)).toNat = (s : Int) := by decide +kernel
theorem mk_at {s : Int} (hs : 0 ≤ s ∧ s < 47) : zct (mkZ s).toNat = s := by
  obtain ⟨n, rfl⟩ := Int.eq_ofNat_of_zero_le hs.1
  exact mk_at0 n (by omega)
/-- below a shape's mask something is still wanting -/
theorem mk_more {s : Int} (hs : 0 ≤ s ∧ s < 47) {i : Nat} (hi : i < (mkZ s).toNat) (h : s - zct i ≤ 0) : rdZ (i : Int) ≠ (i : Int) := by
  intro hr
  have h1 := zct_up i hr
  have h2 := mk_at hs
  have h3 := zct_mono (i + 1) ((mkZ s).toNat - (i + 1))
  rw [show i + 1 + ((mkZ s).toNat - (i + 1)) = (mkZ s).toNat by omega] at h3
  omega
def btE (v : Int) : Int := zan v 1 + zan (zsr v 1) 1 + zan (zsr v 2) 1 + zan (zsr v 3) 1 + zan (zsr v 4) 1 + zan (zsr v 5) 1 + zan (zsr v 6) 1 + zan (zsr v 7) 1
theorem btE_eq0 : ∀ n : Nat, n < 256 → btE (n : Int) = bcZ (n : Int) := by decide +kernel
theorem btE_eq {m : Int} (hm : 0 ≤ m ∧ m < 256) : btE m = bcZ m := z256 (P := fun n => btE n = bcZ n) btE_eq0 hm
-- rows that change
def cpM (M : Mem) (x y : Nat) (n : Int) : Mem := fun k z => if k = y ∧ 0 ≤ z ∧ z < n then M x z else M k z
theorem cpM_0 {M : Mem} {x y : Nat} : M = cpM M x y 0 := by
  funext k z
  unfold cpM
  rw [if_neg (by omega)]
theorem cpM_s {M : Mem} {x y : Nat} (hxy : x ≠ y) (n : Nat) : zup (cpM M x y n) y n (cpM M x y n x n) = cpM M x y ((n + 1 : Nat) : Int) := by
  have e : cpM M x y n x n = M x n := by
    unfold cpM
    rw [if_neg (fun h => hxy h.1)]
  rw [e]
  funext k z
  simp only [cpM, zup]
  grind (splits := 30)
theorem cpM_to {M : Mem} {x y : Nat} {n z : Int} (h : 0 ≤ z ∧ z < n) : cpM M x y n y z = M x z := if_pos ⟨rfl, h⟩
theorem cpM_off {M : Mem} {x y k : Nat} {n : Int} (h : k ≠ y) : cpM M x y n k = M k := by
  funext z
  exact if_neg (fun h' => h h'.1)
def alF (w o : Int) : Int := if o = 1 then zsl 1 (w + 2) - 1 else 0
def edF (w : Int) : Int := zor 1 (zsl 1 (w + 1))
def frV (h w o i v : Int) : Int := if 0 < i ∧ i ≤ h then zor (zan (zan v (zxr (edF w) (-1))) (zsl 1 (w + 2) - 1)) (zan (alF w o) (edF w)) else alF w o
def frM (M : Mem) (a t : Nat) (n : Int) : Mem := fun k z => if k = a ∧ 0 ≤ z ∧ z < n then frV (M t 0) (M t 1) (M t 2) z (M a z) else M k z
theorem frM_0 {M : Mem} {a t : Nat} : M = frM M a t 0 := by
  funext k z
  unfold frM
  rw [if_neg (by omega)]
theorem frM_off {M : Mem} {a t k : Nat} {n : Int} (h : k ≠ a) : frM M a t n k = M k := by
  funext z
  exact if_neg (fun h' => h h'.1)
theorem frM_at {M : Mem} {a t : Nat} {n z : Int} (h : n ≤ z) : frM M a t n a z = M a z := if_neg (by omega)
theorem frM_s {M : Mem} {a t : Nat} (n : Nat) {v : Int} (hv : v = frV (M t 0) (M t 1) (M t 2) n (M a n)) : zup (frM M a t n) a n v = frM M a t ((n + 1 : Nat) : Int) := by
  subst hv
  funext k z
  simp only [frM, zup]
  grind (splits := 30)
/-- a tile becomes land or water in the law's rows -/
def beM (M : Mem) (r c : Int) (b : Bool) : Mem := zup (zup M 38 (r + 1) (lyV (M 38 (r + 1)) c (zbz b))) 39 (3 * r + c / 4) (lpV (M 39 (3 * r + c / 4)) c (if b then piZ (M 39) r c else 63))
theorem beM_off {M : Mem} {r c : Int} {b : Bool} {k : Nat} (h1 : k ≠ 38) (h2 : k ≠ 39) : beM M r c b k = M k := by
  unfold beM
  rw [zup_ne h2, zup_ne h1]
/-- how many tiles that are land in both maps have other masks -/
def otS (t t' : TS) : Int := zS2 t (fun r c => if laT t r c = true ∧ laT t' r c = true ∧ mhT t r c ≠ mhT t' r c then 1 else 0)
