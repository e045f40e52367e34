/-! ===== p40: the frame around the map ===== -/
theorem zbt_all0 : ∀ w : Nat, w < 13 → ∀ j : Nat, j < 32 → zbt (zsl 1 ((w : Int) + 2) - 1) j = decide (j < w + 2) ∧ zbt (edF (w : Int)) j = decide (j = 0 ∨ j = w + 1) := by decide +kernel
theorem zbt_al {w o : Int} {b : Bool} {j : Nat} (hw : 0 ≤ w ∧ w < 13) (ho : o = zbz b) (hj : j < 32) : zbt (alF w o) j = (b && decide ((j : Int) < w + 2)) := by
  obtain ⟨n, rfl⟩ := Int.eq_ofNat_of_zero_le hw.1
  have h := (zbt_all0 n (by omega) j hj).1
  unfold alF
  cases b
  · rw [if_neg (by rw [ho]; decide), zbt_0 j hj]
    rfl
  · rw [if_pos (show o = 1 from ho), h, Bool.true_and]
    by_cases hh : j < n + 2
    · rw [decide_eq_true hh, decide_eq_true (by omega)]
    · rw [decide_eq_false hh, decide_eq_false (by omega)]
theorem frV_bt {h w o i v : Int} {b : Bool} {j : Nat} (hw : 1 ≤ w ∧ w < 13) (ho : o = zbz b) (hj : (j : Int) < w + 2) : zbt (frV h w o i v) j = if (0 < i ∧ i ≤ h) ∧ 1 ≤ j ∧ (j : Int) ≤ w then zbt v j else b := by
  unfold frV
  by_cases hi : 0 < i ∧ i ≤ h
  · rw [if_pos hi, zbt_or, zbt_an, zbt_an, zbt_an, zbt_not _ (by omega), zbt_al (by omega) ho (by omega), decide_eq_true hj, Bool.and_true]
    obtain ⟨n, rfl⟩ := Int.eq_ofNat_of_zero_le (show 0 ≤ w by omega)
    have h := zbt_all0 n (by omega) j (by omega)
    rw [h.1, h.2, decide_eq_true (by omega : j < n + 2), Bool.and_true]
    by_cases hin : 1 ≤ j ∧ (j : Int) ≤ (n : Int)
    · rw [if_pos ⟨hi, hin⟩, decide_eq_false (by omega)]
      cases zbt v j <;> cases b <;> rfl
    · rw [if_neg (fun h' => hin h'.2), decide_eq_true (by omega)]
      cases zbt v j <;> cases b <;> rfl
  · rw [if_neg hi, if_neg (fun h' => hi h'.1), zbt_al (by omega) ho (by omega), decide_eq_true hj, Bool.and_true]
theorem fr_F {M : Mem} {t : TS} (h1 : 1 ≤ tH t ∧ tH t ≤ 12) (h2 : 1 ≤ tW t ∧ tW t ≤ 12) (hT : p4T (M 40) t) (hin : ∀ r c : Int, inT t r c = true → laZ (M 38) r c = zbz (laT t r c)) : p4F (frM M 38 40 14 38) t := by
  intro r c a1 a2 a3 a4
  have e : laZ (frM M 38 40 14 38) r c = zan (zsr (frV (M 40 0) (M 40 1) (M 40 2) (r + 1) (M 38 (r + 1))) (c + 1)) 1 := by
    unfold laZ frM
    rw [if_pos ⟨rfl, by omega, by omega⟩]
  obtain ⟨j, hj⟩ := Int.eq_ofNat_of_zero_le (show 0 ≤ c + 1 by omega)
  rw [e, hj, zan_1, zbt_sr _ (by omega), Nat.add_zero, hT.1, hT.2.1, frV_bt (by omega) hT.2.2 (by omega)]
  by_cases hi : inT t r c = true
  · have hib := inT_bd hi
    rw [if_pos ⟨by omega, by omega, by omega⟩, ← hin r c hi, laZ_bt (by omega), hj]
    rfl
  · have hif : ¬ (0 ≤ r ∧ r < tH t ∧ 0 ≤ c ∧ c < tW t) := fun h => hi (inT_of h)
    rw [if_neg (fun h => hif ⟨by omega, by omega, by omega, by omega⟩)]
    unfold laT
    rw [if_neg hi]
theorem fr_M {M : Mem} {t : TS} (hO : TOk t) (hT : p4T (M 40) t) (hin : ∀ r c : Int, inT t r c = true → laZ (M 38) r c = zbz (laT t r c)) (hP : p4P (M 39) t) : p4M (frM M 38 40 14) t := by
  refine ⟨fr_F ⟨hO.1, hO.2.1⟩ ⟨hO.2.2.1, hO.2.2.2.1⟩ hT hin, ?_, ?_⟩
  · rw [frM_off (by decide)]; exact hP
  · rw [frM_off (by decide)]; exact hT
theorem fr_out {M : Mem} {t : TS} {b : Bool} (hO : TOk t) (hM : p4M M t) : p4M (frM (zup M 40 2 (zbz b)) 38 40 14) (tsO t b) := by
  obtain ⟨hF, hP, hT⟩ := hM
  have ho := hO
  obtain ⟨o1, o2, o3, o4, o5⟩ := ho
  refine fr_M (TOk_O hO) ?_ (fun r c hi => ?_) ?_
  · unfold p4T
    rw [zup_off (by decide), zup_off (by decide), zup_at]
    exact ⟨hT.1, hT.2.1, rfl⟩
  · have hi : inT t r c = true := hi
    have hib := inT_bd hi
    rw [zup_ne (by decide), laT_O, if_pos hi]
    exact hF r c (by omega) (by omega) (by omega) (by omega)
  · rw [zup_ne (by decide)]
    exact hP
theorem zS2_bd {t : TS} {g : Int → Int → Int} {b : Int} (hd : 0 ≤ tH t ∧ 1 ≤ tW t) (hg : ∀ r c : Int, 0 ≤ g r c ∧ g r c ≤ b) : 0 ≤ zS2 t g ∧ zS2 t g ≤ b * ((tH t * tW t).toNat : Int) := by
  have e : zS2 t g = zS1 (fun k : Nat => g ((k : Int) / tW t) ((k : Int) % tW t)) (tH t * tW t).toNat := (z2_flat t (fun r c n => n + g r c) 0 hd.1 hd.2).symm
  rw [e]
  exact zS1_bd (fun i => hg _ _) _
theorem otS_bd {t t' : TS} (hO : TOk t) : 0 ≤ otS t t' ∧ otS t t' ≤ 144 := by
  have hw := zhw hO.1 hO.2.1 hO.2.2.1 hO.2.2.2.1
  have h := zS2_bd (t := t) (g := fun r c => if laT t r c = true ∧ laT t' r c = true ∧ mhT t r c ≠ mhT t' r c then 1 else 0) (b := 1) ⟨by have := hO.1; omega, hO.2.2.1⟩ (fun r c => by
    show 0 ≤ (if laT t r c = true ∧ laT t' r c = true ∧ mhT t r c ≠ mhT t' r c then (1 : Int) else 0) ∧ (if laT t r c = true ∧ laT t' r c = true ∧ mhT t r c ≠ mhT t' r c then (1 : Int) else 0) ≤ 1
    split <;> omega)
  unfold otS
  omega
theorem zbz_mod2 (x : Int) : ∃ b : Bool, x % 2 = zbz b := by
  rcases (show x % 2 = 0 ∨ x % 2 = 1 by omega) with h | h
  · exact ⟨false, h⟩
  · exact ⟨true, h⟩
