/-! ===== p40: what a shape needs ===== -/
def mtE (m : Int) (n : Nat) : Int := zrep (fun (j : Nat) (x : Int) => zor x (if zan (zsr m (2 * (j : Int) + 1 - 1)) 1 = 1 ∧ zan (zsr m ((2 * (j : Int) + 1 + 1) % 8)) 1 = 1 then zsl 1 (2 * (j : Int) + 1) else 0)) n 85
theorem mtE_s (m : Int) (n : Nat) : mtE m (n + 1) = zor (mtE m n) (if zan (zsr m (2 * (n : Int) + 1 - 1)) 1 = 1 ∧ zan (zsr m ((2 * (n : Int) + 1 + 1) % 8)) 1 = 1 then zsl 1 (2 * (n : Int) + 1) else 0) := rfl
theorem mtE_bt0 : ∀ s : Nat, s < 47 → mtE (mkZ (s : Int)) 4 = btZ (mkZ (s : Int)) := by decide +kernel
theorem mtE_bt {s : Int} (hs : 0 ≤ s ∧ s < 47) : mtE (mkZ s) 4 = btZ (mkZ s) := by
  obtain ⟨n, rfl⟩ := Int.eq_ofNat_of_zero_le hs.1
  exact mtE_bt0 n (by omega)
theorem zxr_comm (a b : Int) : zxr a b = zxr b a := by unfold zxr; rw [Int32.xor_comm]
theorem p4_oth (t : TS) (r c s : Int) : zan (zxr (arT t r c) (mkZ s)) (btZ (mkZ s)) = wrT t r c s := by unfold wrT; rw [zxr_comm]
theorem zmk_bit8 : ∀ b0 b1 b2 b3 b4 b5 b6 b7 : Bool, ∀ d : Nat, d < 8 → zan (zsr (zmk (z8 b0 b1 b2 b3 b4 b5 b6 b7) 8) (d : Int)) 1 = zbz (z8 b0 b1 b2 b3 b4 b5 b6 b7 d) := by decide +kernel
theorem z8_at (f : Nat → Bool) : ∀ d : Nat, d < 8 → z8 (f 0) (f 1) (f 2) (f 3) (f 4) (f 5) (f 6) (f 7) d = f d := by
  intro d hd
  obtain rfl | rfl | rfl | rfl | rfl | rfl | rfl | rfl : d = 0 ∨ d = 1 ∨ d = 2 ∨ d = 3 ∨ d = 4 ∨ d = 5 ∨ d = 6 ∨ d = 7 := by omega
  all_goals rfl
theorem zmk_bit (f : Nat → Bool) {d : Nat} (hd : d < 8) : zan (zsr (zmk f 8) (d : Int)) 1 = zbz (f d) := by
  rw [z8_of, zmk_bit8 _ _ _ _ _ _ _ _ d hd, z8_at f d hd]
theorem zmk_85b : ∀ b0 b1 b2 b3 b4 b5 b6 b7 : Bool, 4 - bcZ (zan (zmk (z8 b0 b1 b2 b3 b4 b5 b6 b7) 8) 85) = (if b0 then 0 else 1) + (if b2 then 0 else 1) + (if b4 then 0 else 1) + (if b6 then 0 else 1) := by decide +kernel
def ouB (t : TS) (r c s : Int) : Nat → Bool
  | 0 => false
  | d + 1 => ouB t r c s d || (zwr t r c s d && !inT t (r + zrow d) (c + zcol d))
theorem ouB_iff {t : TS} {r c s : Int} : ∀ n : Nat, ouB t r c s n = true ↔ ∃ d, d < n ∧ (zwr t r c s d && ofT t r c d) = true
  | 0 => ⟨fun h => (by cases h), fun ⟨d, h, _⟩ => absurd h (Nat.not_lt_zero d)⟩
  | n + 1 => by
    show (ouB t r c s n || (zwr t r c s n && !inT t (r + zrow n) (c + zcol n))) = true ↔ _
    rw [Bool.or_eq_true, ouB_iff n]
    constructor
    · rintro (⟨d, h1, h2⟩ | h)
      · exact ⟨d, by omega, h2⟩
      · exact ⟨n, by omega, h⟩
    · rintro ⟨d, h1, h2⟩
      by_cases hd : d = n
      · subst hd; exact Or.inr h2
      · exact Or.inl ⟨d, by omega, h2⟩
theorem p4_ne {t : TS} {r c s : Int} (hi : inT t r c = true) (hs : 0 ≤ s ∧ s < 47) : neA t r c s = if ouB t r c s 8 = true then -6 else bcZ (wrT t r c s) := by
  unfold neA
  rw [if_pos ⟨hi, hs⟩]
  have e : zan (wrT t r c s) (obT t r c) = zmk (fun d => zwr t r c s d && ofT t r c d) 8 := by
    rw [wrT_eq hs]
    exact zmk_an _ _
  rw [e]
  by_cases h : ouB t r c s 8 = true
  · rw [if_pos h, if_pos]
    intro h0
    obtain ⟨d, hd, hb⟩ := (ouB_iff 8).mp h
    have := (zmk_0 _).mp h0 d hd
    rw [hb] at this
    cases this
  · rw [if_neg h, if_neg]
    intro h0
    refine h0 ((zmk_0 _).mpr fun d hd => ?_)
    cases hb : (zwr t r c s d && ofT t r c d) with
    | false => rfl
    | true => exact absurd ((ouB_iff 8).mpr ⟨d, hd, hb⟩) h
def thS (t : TS) (r c : Int) (n : Nat) : Int := zS1 (fun j : Nat => if laT t (r + zrow (2 * (j : Int))) (c + zcol (2 * (j : Int))) = true ∧ inT t (r + zrow (2 * (j : Int))) (c + zcol (2 * (j : Int))) = true then 1 else 0) n
theorem thS_bd (t : TS) (r c : Int) (n : Nat) : 0 ≤ thS t r c n ∧ thS t r c n ≤ 1 * n := zS1_bd (fun i => by
  show 0 ≤ (if laT t (r + zrow (2 * (i : Int))) (c + zcol (2 * (i : Int))) = true ∧ inT t (r + zrow (2 * (i : Int))) (c + zcol (2 * (i : Int))) = true then (1 : Int) else 0) ∧ (if laT t (r + zrow (2 * (i : Int))) (c + zcol (2 * (i : Int))) = true ∧ inT t (r + zrow (2 * (i : Int))) (c + zcol (2 * (i : Int))) = true then (1 : Int) else 0) ≤ 1
  split <;> omega) n
theorem p4_own (t : TS) (r c : Int) : 4 - bcZ (zan (arT t r c) 85) = zS1 (fun j : Nat => if laT t (r + zrow (2 * (j : Int))) (c + zcol (2 * (j : Int))) then 0 else 1) 4 := by
  unfold arT
  rw [z8_of, zmk_85b, zS1_s, zS1_s, zS1_s, zS1_s]
  show _ = 0 + _ + _ + _ + _
  rw [Int.zero_add]
  rfl
theorem p4_mo (t : TS) (r c : Int) : moT t r c = 4 - bcZ (zan (arT t r c) 85) - thS t r c 4 := by
  unfold thS
  rw [p4_own, moT_N, Int.sub_eq_add_neg, ← zS1_neg, ← zS1_add]
  refine zS1_congr fun i _ => ?_
  cases laT t (r + zrow (2 * (i : Int))) (c + zcol (2 * (i : Int)))
  · simp
  · cases inT t (r + zrow (2 * (i : Int))) (c + zcol (2 * (i : Int))) <;> simp
theorem p4_cc {t : TS} {r c : Int} (hi : inT t r c = true) : ccA t r c = 100 + (if laT t r c = true then thS t r c 4 - (4 - bcZ (zan (arT t r c) 85)) else 4 - bcZ (zan (arT t r c) 85) - thS t r c 4) := by
  unfold ccA
  rw [if_pos hi, p4_mo]
  cases laT t r c
  · simp
  · simp; omega
theorem inT_f {t : TS} {r c : Int} (h : r < 0 ∨ tH t ≤ r ∨ c < 0 ∨ tW t ≤ c) : inT t r c = false := decide_eq_false (by omega)
theorem zwr_bit {t : TS} {r c s : Int} (hs : 0 ≤ s ∧ s < 47) {d : Nat} (hd : d < 8) : zan (zsr (wrT t r c s) (d : Int)) 1 = zbz (zwr t r c s d) := by
  rw [wrT_eq hs]
  exact zmk_bit _ hd
theorem arT_bit (t : TS) (r c : Int) {d : Nat} (hd : d < 8) : zan (zsr (arT t r c) (d : Int)) 1 = zbz (laT t (r + zrow d) (c + zcol d)) := zmk_bit (afT t r c) hd
theorem arT_bit2 (t : TS) (r c : Int) {j : Nat} (hj : j < 4) : zan (zsr (arT t r c) (2 * (j : Int))) 1 = zbz (laT t (r + zrow (2 * (j : Int))) (c + zcol (2 * (j : Int)))) := by
  have h := arT_bit t r c (d := 2 * j) (by omega)
  rw [show ((2 * j : Nat) : Int) = 2 * (j : Int) by omega] at h
  exact h
theorem wrT_bd (t : TS) (r c s : Int) : 0 ≤ wrT t r c s ∧ wrT t r c s < 256 := by
  have h := btZ_bd (mkZ s)
  have h2 := zan_bd (zxr (mkZ s) (arT t r c)) (m := btZ (mkZ s)) (by omega)
  unfold wrT
  omega
theorem bcZ_bd {x : Int} (h : 0 ≤ x ∧ x < 256) : 0 ≤ bcZ x ∧ bcZ x ≤ 8 := by
  have h := rdZ_bd h
  omega
theorem p4_ouT {t : TS} {r c s : Int} {d : Nat} (hw : zbz (zwr t r c s d) = 1) (hi : inT t (r + zrow d) (c + zcol d) = false) : ouB t r c s (d + 1) = true := by
  show (ouB t r c s d || (zwr t r c s d && !inT t (r + zrow d) (c + zcol d))) = true
  rw [hi, p4_b1 hw]
  cases ouB t r c s d <;> rfl
theorem p4_ouK {t : TS} {r c s : Int} {d : Nat} (h : ouB t r c s d = true) : ouB t r c s (d + 1) = true := by
  show (ouB t r c s d || _) = true
  rw [h]
  rfl
theorem p4_ouF1 {t : TS} {r c s : Int} {d : Nat} (h : ouB t r c s d = false) (hw : zbz (zwr t r c s d) ≠ 1) : ouB t r c s (d + 1) = false := by
  show (ouB t r c s d || (zwr t r c s d && !inT t (r + zrow d) (c + zcol d))) = false
  rw [h]
  cases hz : zwr t r c s d
  · rfl
  · rw [hz] at hw; exact absurd rfl hw
theorem p4_ouF2 {t : TS} {r c s : Int} {d : Nat} (h : ouB t r c s d = false) (hi : inT t (r + zrow d) (c + zcol d) = true) : ouB t r c s (d + 1) = false := by
  show (ouB t r c s d || (zwr t r c s d && !inT t (r + zrow d) (c + zcol d))) = false
  rw [h, hi]
  cases zwr t r c s d <;> rfl
theorem q_needs (M : Mem) (t : TS) (r c s : Int) (hX : XI M) (ht : tsX M 0 = t) (hO : TOk t) (hi : inT t r c = true) (hs : 0 ≤ s ∧ s < 47) : zCt yX5_needs KX5_needs [zR 27, zI r, zI c, zI s] M (fun zv zM => zv = some (if ouB t r c s 8 = true then -6 else bcZ (wrT t r c s)) ∧ zM = M) := by
  have hb := p4_ib t r c hO hi
  have h := ct_X5_needs M (hX.2.1 0 (by decide)) hX.1 r ⟨hb.1, hb.2.1⟩ c hb.2.2 s (by omega)
  rw [ht, p4_ne hi hs] at h
  exact h
theorem q_cc (M : Mem) (t : TS) (r c : Int) (hX : XI M) (ht : tsX M 0 = t) (hO : TOk t) (hi : inT t r c = true) : zCt yX5_coastIfChanged KX5_coastIfChanged [zR 27, zI r, zI c] M (fun zv zM => zv = some (100 + (if laT t r c = true then thS t r c 4 - (4 - bcZ (zan (arT t r c) 85)) else 4 - bcZ (zan (arT t r c) 85) - thS t r c 4)) ∧ zM = M) := by
  have hb := p4_ib t r c hO hi
  have h := ct_X5_coastIfChanged M (hX.2.1 0 (by decide)) hX.1 r ⟨hb.1, hb.2.1⟩ c hb.2.2
  rw [ht, p4_cc hi] at h
  exact h
