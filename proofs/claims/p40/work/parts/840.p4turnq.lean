/-! ===== p40: a quarter turn in the law's rows ===== -/
theorem inT_T {t : TS} {r c : Int} : inT (toT t) r c = inT t (tH t - 1 - c) r := by
  unfold inT
  show decide (0 ≤ r ∧ r < tW t ∧ 0 ≤ c ∧ c < tH t) = decide (0 ≤ tH t - 1 - c ∧ tH t - 1 - c < tH t ∧ 0 ≤ r ∧ r < tW t)
  by_cases q : 0 ≤ r ∧ r < tW t ∧ 0 ≤ c ∧ c < tH t
  · rw [decide_eq_true q, decide_eq_true (by omega)]
  · rw [decide_eq_false q, decide_eq_false (by omega)]
theorem laT_T {t : TS} {r c : Int} (hi : inT (toT t) r c = true) : laT (toT t) r c = laT t (tH t - 1 - c) r := by
  have h2 := hi
  rw [inT_T] at h2
  unfold laT
  rw [if_pos hi, if_pos h2]
  rfl
theorem piT_T {t : TS} {r c : Int} (hi : inT (toT t) r c = true) : piT (toT t) r c = if piT t (tH t - 1 - c) r = -1 then -1 else tuZ (piT t (tH t - 1 - c) r) 1 := by
  have h2 := hi
  rw [inT_T] at h2
  unfold piT
  rw [if_pos hi, if_pos h2]
  rfl
theorem pcT_T {t : TS} (hO : TOk t) {r c : Int} (hi : inT (toT t) r c = true) : (pcT t (tH t - 1 - c) r = 63 → pcT (toT t) r c = 63) ∧ (pcT t (tH t - 1 - c) r ≠ 63 → (0 ≤ pcT t (tH t - 1 - c) r ∧ pcT t (tH t - 1 - c) r < 47) ∧ pcT (toT t) r c = tuZ (pcT t (tH t - 1 - c) r) 1) := by
  have h := p4_pc hO (tH t - 1 - c) r
  have e := piT_T hi
  refine ⟨fun h1 => ?_, fun h1 => ?_⟩
  · have h2 : piT t (tH t - 1 - c) r = -1 := Decidable.byContradiction fun q => absurd (h.2.2.1.mpr q) (by omega)
    rw [if_pos h2] at e
    unfold pcT
    rw [if_pos e]
  · have h2 := h.2.2.2 h1
    rw [if_neg (by omega)] at e
    have h3 := tuZ_ok h2.2
    refine ⟨by omega, ?_⟩
    rw [h2.1]
    show (if piT (toT t) r c = -1 then 63 else piT (toT t) r c) = _
    rw [e, if_neg (by omega)]
theorem tu_sh0 : ∀ s : Nat, s < 47 → zct (rtZ (mkZ (s : Int)) 2).toNat = tuZ (s : Int) 1 := by decide +kernel
theorem tu_sh {s : Int} (hs : 0 ≤ s ∧ s < 47) : zct (rtZ (mkZ s) 2).toNat = tuZ s 1 := by
  obtain ⟨n, rfl⟩ := Int.eq_ofNat_of_zero_le hs.1
  exact tu_sh0 n (by omega)
def qtA (t : TS) (r c : Int) (M : Mem) : Mem := zup M 38 (r + 1) (lyV (M 38 (r + 1)) c (zbz (laT t r c)))
def qtB (t : TS) (r c : Int) (M : Mem) : Mem := zup M 39 (3 * r + c / 4) (lpV (M 39 (3 * r + c / 4)) c (pcT t r c))
def qtS (t : TS) (k : Nat) (M : Mem) : Mem := qtB t ((k : Int) / tW t) ((k : Int) % tW t) (qtA t ((k : Int) / tW t) ((k : Int) % tW t) M)
/-- the frame is right outside, and inside as far as the tiles have come -/
def qtI (t : TS) (n : Int) (M : Mem) : Prop := (∀ r c : Int, -1 ≤ r → r ≤ tH t → -1 ≤ c → c ≤ tW t → (inT t r c = true → tW t * r + c < n) → laZ (M 38) r c = zbz (laT t r c)) ∧ (∀ r c : Int, inT t r c = true → tW t * r + c < n → piZ (M 39) r c = pcT t r c) ∧ p4T (M 40) t
theorem ix_inj {w r c r' c' : Int} (hc : 0 ≤ c ∧ c < w) (hc' : 0 ≤ c' ∧ c' < w) (h : w * r + c = w * r' + c') : r = r' ∧ c = c' := by
  have e : (w * r + c) % w = (w * r' + c') % w := by rw [h]
  rw [Int.add_comm, Int.add_mul_emod_self_left, Int.emod_eq_of_lt hc.1 hc.2, Int.add_comm (w * r'), Int.add_mul_emod_self_left, Int.emod_eq_of_lt hc'.1 hc'.2] at e
  have e2 : w * r = w * r' := by omega
  exact ⟨Int.eq_of_mul_eq_mul_left (by omega) e2, e⟩
theorem qtI_s {t : TS} {M : Mem} {k : Nat} (hO : TOk t) (hk : (k : Int) < tH t * tW t) (h : qtI t k M) : qtI t ((k + 1 : Nat) : Int) (qtS t k M) := by
  obtain ⟨h1, h2, h3⟩ := h
  obtain ⟨hi, hkk⟩ := kx_in hO hk
  unfold qtS
  obtain ⟨p, hp⟩ : ∃ p : Int, p = (k : Int) / tW t := ⟨_, rfl⟩
  obtain ⟨q, hq⟩ : ∃ q : Int, q = (k : Int) % tW t := ⟨_, rfl⟩
  rw [← hp, ← hq] at hi hkk ⊢
  have hib := inT_bd hi
  have hO2 := hO.2.1
  have hO4 := hO.2.2.2.1
  have e38 : qtB t p q (qtA t p q M) 38 = fun z => if z = p + 1 then lyV (M 38 (p + 1)) q (zbz (laT t p q)) else M 38 z := by
    unfold qtB qtA
    rw [zup_ne (by decide), zup_fn]
  have e39 : qtB t p q (qtA t p q M) 39 = fun z => if z = 3 * p + q / 4 then lpV (M 39 (3 * p + q / 4)) q (pcT t p q) else M 39 z := by
    unfold qtB qtA
    rw [zup_fn, zup_ne (by decide)]
  refine ⟨fun r c a1 a2 a3 a4 hh => ?_, fun r c hrc hlt => ?_, ?_⟩
  · rw [e38, laZ_ly (by omega) (by omega) (zbz_cases _)]
    by_cases hc : r = p ∧ c = q
    · rw [if_pos hc, hc.1, hc.2]
    · rw [if_neg hc]
      refine h1 r c a1 a2 a3 a4 (fun hrc => ?_)
      have hrb := inT_bd hrc
      have h5 := hh hrc
      have h6 : tW t * r + c ≠ k := fun h7 => hc (ix_inj (by omega) (by omega) (h7.trans hkk.symm))
      omega
  · have hrb := inT_bd hrc
    have hpc := p4_pc hO p q
    rw [e39, piZ_lp (by omega) (by omega) (by omega)]
    by_cases hc : r = p ∧ c = q
    · rw [if_pos hc, hc.1, hc.2]
    · rw [if_neg hc]
      refine h2 r c hrc ?_
      have h6 : tW t * r + c ≠ k := fun h7 => hc (ix_inj (by omega) (by omega) (h7.trans hkk.symm))
      omega
  · unfold qtB qtA
    rw [zup_ne (by decide), zup_ne (by decide)]
    exact h3
theorem qtI_n {t : TS} {M : Mem} (hO : TOk t) (h : qtI t 0 M) : ∀ n : Nat, (n : Int) ≤ tH t * tW t → qtI t n (zrep (qtS t) n M) ∧ ∀ k : Nat, k ≠ 38 → k ≠ 39 → zrep (qtS t) n M k = M k
  | 0, _ => ⟨h, fun _ _ _ => rfl⟩
  | n + 1, hn => by
    have ih := qtI_n hO h n (by omega)
    rw [zrep_succ]
    refine ⟨qtI_s hO (by omega) ih.1, fun k h1 h2 => ?_⟩
    unfold qtS qtB qtA
    rw [zup_ne h2, zup_ne h1]
    exact ih.2 k h1 h2
theorem qtI_end {t : TS} {M : Mem} (hO : TOk t) (h : qtI t (tH t * tW t) M) : p4M M t := by
  obtain ⟨h1, h2, h3⟩ := h
  have key : ∀ r c : Int, inT t r c = true → tW t * r + c < tH t * tW t := fun r c hi => by
    have hib := inT_bd hi
    have e : tW t * r ≤ tW t * (tH t - 1) := Int.mul_le_mul_of_nonneg_left (by omega) (by omega)
    rw [Int.mul_sub, Int.mul_comm (tW t) (tH t), Int.mul_one] at e
    omega
  exact ⟨fun r c a1 a2 a3 a4 => h1 r c a1 a2 a3 a4 (key r c), fun r c hi => h2 r c hi (key r c hi), h3⟩
theorem qtI_0 {M : Mem} {t : TS} (hO : TOk t) (hT : p4T (M 40) t) : qtI t 0 (frM M 38 40 14) := by
  refine ⟨fun r c a1 a2 a3 a4 hh => ?_, fun r c hi hlt => ?_, ?_⟩
  · have hn : ¬ inT t r c = true := fun hi => by
      have hib := inT_bd hi
      have := hh hi
      have e : 0 ≤ tW t * r := Int.mul_nonneg (by omega) hib.1
      omega
    have g := fr_F (M := M) (t := (tH t, tW t, tO t, fun r c => decide (laZ (M 38) r c = 1), t.2.2.2.2)) ⟨hO.1, hO.2.1⟩ ⟨hO.2.2.1, hO.2.2.2.1⟩ hT (fun r c hi => by
      have hi2 : inT t r c = true := hi
      have e : laT (tH t, tW t, tO t, fun r c => decide (laZ (M 38) r c = 1), t.2.2.2.2) r c = decide (laZ (M 38) r c = 1) := by
        unfold laT
        rw [if_pos hi]
      rw [e, laZ_bt (by have := inT_bd hi2; have := hO.2.2.2.1; omega), zbz_d1]) r c a1 a2 a3 a4
    rw [g]
    congr 1
    unfold laT
    rw [if_neg hn, if_neg (show ¬ inT (tH t, tW t, tO t, fun r c => decide (laZ (M 38) r c = 1), t.2.2.2.2) r c = true from hn)]
    rfl
  · exfalso
    have hib := inT_bd hi
    have e : 0 ≤ tW t * r := Int.mul_nonneg (by omega) hib.1
    omega
  · rw [frM_off (by decide)]
    exact hT
theorem TOk_Tn {t : TS} (hO : TOk t) : ∀ n : Nat, TOk (toTn n t)
  | 0 => hO
  | n + 1 => TOk_T (TOk_Tn hO n)
