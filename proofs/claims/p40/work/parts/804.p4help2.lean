theorem zhw {h w : Int} (h1 : 1 ≤ h) (h2 : h ≤ 12) (w1 : 1 ≤ w) (w2 : w ≤ 12) : 1 ≤ h * w ∧ h * w ≤ 144 := by
  constructor
  · have := Int.mul_le_mul h1 w1 (by omega) (by omega)
    omega
  · have := Int.mul_le_mul h2 w2 (by omega) (by omega)
    omega
theorem zkx {h w k : Int} (hk : 0 ≤ k ∧ k < h * w) (hw : 1 ≤ w) : 0 ≤ k / w ∧ k / w < h ∧ 0 ≤ k % w ∧ k % w < w ∧ w * (k / w) + k % w = k :=
  ⟨Int.ediv_nonneg hk.1 (by omega), Int.ediv_lt_of_lt_mul (by omega) hk.2, Int.emod_nonneg k (by omega), Int.emod_lt_of_pos k (by omega), Int.mul_ediv_add_emod k w⟩
theorem p4_b1 {b : Bool} (h : zbz b = 1) : b = true := by cases b with
  | true => rfl
  | false => exact absurd h (by decide)
theorem p4_b0 {b : Bool} (h : zbz b ≠ 1) (hb : b = true) : False := h (by rw [hb]; rfl)
theorem otS_k {t t2 : TS} {h w : Int} (eh : h = tH t) (ew : w = tW t) (hb : 0 ≤ tH t ∧ 1 ≤ tW t) : zS1 (fun k : Nat => if laT t ((k : Int) / w) ((k : Int) % w) = true ∧ laT t2 ((k : Int) / w) ((k : Int) % w) = true ∧ mhT t ((k : Int) / w) ((k : Int) % w) ≠ mhT t2 ((k : Int) / w) ((k : Int) % w) then 1 else 0) (h * w).toNat = otS t t2 := by
  subst eh ew
  exact z2_flat t (fun r c n => n + (if laT t r c = true ∧ laT t2 r c = true ∧ mhT t r c ≠ mhT t2 r c then 1 else 0)) 0 hb.1 hb.2
set_option maxRecDepth 100000 in
set_option maxHeartbeats 4000000 in
theorem ct_L_bits (M : Mem) (v : Int) (hv : 0 ≤ v ∧ v < 256) : zCt yL_bits KL_bits [zI v] M (fun zv zM => zv = some (bcZ v) ∧ zM = M) := by
  refine z_met (by decide) rfl (Nat.le_of_ble_eq_true rfl) (fun X hc he => ?_)
  show zJW X 0 [(0, zI v)] [] M
  refine z_ild (pc := 0) hc 0 rfl dL_bits_0 ?_
  refine z_iconst (pc := 1) hc 1 dL_bits_1 ?_
  refine z_iand (pc := 2) hc dL_bits_2 ?_
  refine z_ild (pc := 3) hc 0 rfl dL_bits_3 ?_
  refine z_iconst (pc := 4) hc 1 dL_bits_4 ?_
  refine z_ishr (pc := 5) hc dL_bits_5 ?_
  refine z_iconst (pc := 6) hc 1 dL_bits_6 ?_
  refine z_iand (pc := 7) hc dL_bits_7 ?_
  refine z_iadd (pc := 8) hc dL_bits_8 ?_
  refine z_ild (pc := 9) hc 0 rfl dL_bits_9 ?_
  refine z_iconst (pc := 10) hc 2 dL_bits_10 ?_
  refine z_ishr (pc := 11) hc dL_bits_11 ?_
  refine z_iconst (pc := 12) hc 1 dL_bits_12 ?_
  refine z_iand (pc := 13) hc dL_bits_13 ?_
  refine z_iadd (pc := 14) hc dL_bits_14 ?_
  refine z_ild (pc := 15) hc 0 rfl dL_bits_15 ?_
  refine z_iconst (pc := 16) hc 3 dL_bits_16 ?_
  refine z_ishr (pc := 17) hc dL_bits_17 ?_
  refine z_iconst (pc := 18) hc 1 dL_bits_18 ?_
  refine z_iand (pc := 19) hc dL_bits_19 ?_
  refine z_iadd (pc := 20) hc dL_bits_20 ?_
  refine z_ild (pc := 21) hc 0 rfl dL_bits_21 ?_
  refine z_iconst (pc := 22) hc 4 dL_bits_22 ?_
  refine z_ishr (pc := 23) hc dL_bits_23 ?_
  refine z_iconst (pc := 24) hc 1 dL_bits_24 ?_
  refine z_iand (pc := 25) hc dL_bits_25 ?_
  refine z_iadd (pc := 26) hc dL_bits_26 ?_
  refine z_ild (pc := 27) hc 0 rfl dL_bits_27 ?_
  refine z_iconst (pc := 28) hc 5 dL_bits_28 ?_
  refine z_ishr (pc := 29) hc dL_bits_29 ?_
  refine z_iconst (pc := 30) hc 1 dL_bits_30 ?_
  refine z_iand (pc := 31) hc dL_bits_31 ?_
  refine z_iadd (pc := 32) hc dL_bits_32 ?_
  refine z_ild (pc := 33) hc 0 rfl dL_bits_33 ?_
  refine z_bipush (pc := 34) hc 6 (by decide) dL_bits_34 ?_
  refine z_ishr (pc := 36) hc dL_bits_36 ?_
  refine z_iconst (pc := 37) hc 1 dL_bits_37 ?_
  refine z_iand (pc := 38) hc dL_bits_38 ?_
  refine z_iadd (pc := 39) hc dL_bits_39 ?_
  refine z_ild (pc := 40) hc 0 rfl dL_bits_40 ?_
  refine z_bipush (pc := 41) hc 7 (by decide) dL_bits_41 ?_
  refine z_ishr (pc := 43) hc dL_bits_43 ?_
  refine z_iconst (pc := 44) hc 1 dL_bits_44 ?_
  refine z_iand (pc := 45) hc dL_bits_45 ?_
  refine z_iadd (pc := 46) hc dL_bits_46 ?_
  exact z_iret (pc := 47) hc he rfl dL_bits_47 (by rw [← btE_eq hv]; exact ⟨rfl, rfl⟩)

set_option maxRecDepth 100000 in
set_option maxHeartbeats 4000000 in
theorem ct_L_has (M : Mem) (a : Nat) (ha : a = 38 ∨ a = 41) (b : Nat) (hb : b = 39 ∨ b = 42) (t : TS) (hF : p4F (M a) t) (hP : p4P (M b) t) (hO : TOk t) (r c : Int) (hi : inT t r c = true)  : zCt yL_has (KL_has a b) [zR a, zR b, zI r, zI c] M (fun zv zM => zv = some (mhT t r c) ∧ zM = M) := by
  obtain ⟨hO1, hO2, hO3, hO4, hO5⟩ := id hO
  have hib := inT_bd hi
  have hpc := p4_pc hO r c
  refine z_met (by decide) rfl (Nat.le_of_ble_eq_true rfl) (fun X hc he => ?_)
  show zJW X 0 [(0, zR a), (1, zR b), (2, zI r), (3, zI c)] [] M
  refine z_ald (pc := 0) hc 1 rfl dL_has_0 ?_
  refine z_ild (pc := 1) hc 2 rfl dL_has_1 ?_
  refine z_ild (pc := 2) hc 3 rfl dL_has_2 ?_
  refine kc_L_26 (pc := 3) hc rfl (zfitG (Nat.le_of_ble_eq_true rfl) (fun i hi => by first | cases hi | (simp only [zflX, zfl0, Bool.or_eq_true, decide_eq_true_eq] at hi ⊢; omega)) (fun h => by first | rfl | cases h)) (Nat.le_of_ble_eq_true rfl) (ct_L_pinT M b hb t hP hO r c (by assumption)) dL_has_3 ?_
  refine z_bipush (pc := 6) hc 63 (by decide) dL_has_6 ?_
  refine z_cge (pc := 8) (tgt := 23) hc (by omega) (by decide) dL_has_8 (fun h8 => ?_) (fun h8 => ?_)
  · show zJW X 23 [(0, zR a), (1, zR b), (2, zI r), (3, zI c)] [] M
    refine z_ald (pc := 23) hc 0 rfl dL_has_23 ?_
    refine z_ild (pc := 24) hc 2 rfl dL_has_24 ?_
    refine z_ild (pc := 25) hc 3 rfl dL_has_25 ?_
    refine kc_L_32 (pc := 26) hc rfl (zfitG (Nat.le_of_ble_eq_true rfl) (fun i hi => by first | cases hi | (simp only [zflX, zfl0, Bool.or_eq_true, decide_eq_true_eq] at hi ⊢; omega)) (fun h => by first | rfl | cases h)) (Nat.le_of_ble_eq_true rfl) (ct_L_around M a ha t hF hO r c (by assumption)) dL_has_26 ?_
    refine kc_L_23 (pc := 29) hc rfl (zfitG (Nat.le_of_ble_eq_true rfl) (fun i hi => by first | cases hi | (simp only [zflX, zfl0, Bool.or_eq_true, decide_eq_true_eq] at hi ⊢; omega)) (fun h => by first | rfl | cases h)) (Nat.le_of_ble_eq_true rfl) (ct_L_regular M (arT t r c) (by first | omega | exact arT_bd _ _ _)) dL_has_29 ?_
    exact z_iret (pc := 32) hc he rfl dL_has_32 (by refine ⟨congrArg some ?_, rfl⟩; unfold mhT; first | (rw [if_neg (hpc.2.2.1.mp (by omega)), (hpc.2.2.2 (by omega)).1]; done) | (rw [if_pos (Classical.byContradiction fun h => absurd (hpc.2.2.1.mpr h) (by omega))]; rfl))
  · show zJW X 11 [(0, zR a), (1, zR b), (2, zI r), (3, zI c)] [] M
    refine z_ald (pc := 11) hc 1 rfl dL_has_11 ?_
    refine z_ild (pc := 12) hc 2 rfl dL_has_12 ?_
    refine z_ild (pc := 13) hc 3 rfl dL_has_13 ?_
    refine kc_L_26 (pc := 14) hc rfl (zfitG (Nat.le_of_ble_eq_true rfl) (fun i hi => by first | cases hi | (simp only [zflX, zfl0, Bool.or_eq_true, decide_eq_true_eq] at hi ⊢; omega)) (fun h => by first | rfl | cases h)) (Nat.le_of_ble_eq_true rfl) (ct_L_pinT M b hb t hP hO r c (by assumption)) dL_has_14 ?_
    refine kc_L_29 (pc := 17) hc rfl (zfitG (Nat.le_of_ble_eq_true rfl) (fun i hi => by first | cases hi | (simp only [zflX, zfl0, Bool.or_eq_true, decide_eq_true_eq] at hi ⊢; omega)) (fun h => by first | rfl | cases h)) (Nat.le_of_ble_eq_true rfl) (ct_L_mask M (pcT t r c) (by omega)) dL_has_17 ?_
    refine z_goto (pc := 20) (tgt := 32) hc (by decide) dL_has_20 ?_
    exact z_iret (pc := 32) hc he rfl dL_has_32 (by refine ⟨congrArg some ?_, rfl⟩; unfold mhT; first | (rw [if_neg (hpc.2.2.1.mp (by omega)), (hpc.2.2.2 (by omega)).1]; done) | (rw [if_pos (Classical.byContradiction fun h => absurd (hpc.2.2.1.mpr h) (by omega))]; rfl))

set_option maxRecDepth 100000 in
set_option maxHeartbeats 4000000 in
theorem ct_L_become (M : Mem) (t : TS) (hF : p4F (M 38) t) (hO : TOk t) (r c : Int) (hi : inT t r c = true) (v : Bool) : zCt yL_become (KL_become 38 39) [zR 38, zR 39, zI r, zI c, zI (zbz v)] M (fun zv zM => zv = some (zbz (laT t r c != v)) ∧ zM = beM M r c v) := by
  obtain ⟨hO1, hO2, hO3, hO4, hO5⟩ := id hO
  have hib := inT_bd hi
  have zb1 := zbz_bd v
  have zb2 := zbz_bd (laT t r c)
  have e39 : ∀ x y : Int, zup M 38 x y 39 = M 39 := fun x y => zup_ne (by decide)
  refine z_met (by decide) rfl (Nat.le_of_ble_eq_true rfl) (fun X hc he => ?_)
  show zJW X 0 [(0, zR 38), (1, zR 39), (2, zI r), (3, zI c), (4, zI (zbz v))] [] M
  refine z_ald (pc := 0) hc 0 rfl dL_become_0 ?_
  refine z_ild (pc := 1) hc 2 rfl dL_become_1 ?_
  refine z_ild (pc := 2) hc 3 rfl dL_become_2 ?_
  refine kc_L_19 (pc := 3) hc rfl (zfitG (Nat.le_of_ble_eq_true rfl) (fun i hi => by first | cases hi | (simp only [zflX, zfl0, Bool.or_eq_true, decide_eq_true_eq] at hi ⊢; omega)) (fun h => by first | rfl | cases h)) (Nat.le_of_ble_eq_true rfl) (ct_L_landT M 38 (Or.inl rfl) t hF hO r c (by omega)) dL_become_3 ?_
  refine z_isw (pc := 6) (lv' := [(5, zI (zbz (laT t r c))), (0, zR 38), (1, zR 39), (2, zI r), (3, zI c), (4, zI (zbz v))]) hc rfl (Nat.le_of_ble_eq_true rfl) dL_become_6 ?_
  refine z_ald (pc := 8) hc 1 rfl dL_become_8 ?_
  refine z_ild (pc := 9) hc 3 rfl dL_become_9 ?_
  refine z_ild (pc := 10) hc 4 rfl dL_become_10 ?_
  refine z_ilw (pc := 11) hc 5 rfl dL_become_11 ?_
  refine kc_L_100 (pc := 13) hc rfl (zfitG (Nat.le_of_ble_eq_true rfl) (fun i hi => by first | cases hi | (simp only [zflX, zfl0, Bool.or_eq_true, decide_eq_true_eq] at hi ⊢; omega)) (fun h => by first | rfl | cases h)) (Nat.le_of_ble_eq_true rfl) (ct_L_lay M 38 (Or.inl rfl) r c (zbz v) (by omega)) dL_become_13 ?_
  refine z_ald (pc := 16) hc 2 rfl dL_become_16 ?_
  refine z_ild (pc := 17) hc 3 rfl dL_become_17 ?_
  refine z_ild (pc := 18) hc 4 rfl dL_become_18 ?_
  refine z_ilw (pc := 19) hc 5 rfl dL_become_19 ?_
  refine z_bne (pc := 21) (tgt := 29) hc (by decide) dL_become_21 (fun h21 => ?_) (fun h21 => ?_)
  · show zJW X 29 [(5, zI (zbz (laT t r c))), (0, zR 38), (1, zR 39), (2, zI r), (3, zI c), (4, zI (zbz v))] [zI c, zI r, zR 39] (zup M 38 (r + 1) (lyV (M 38 (r + 1)) c (zbz v)))
    refine z_ald (pc := 29) hc 2 rfl dL_become_29 ?_
    refine z_ild (pc := 30) hc 3 rfl dL_become_30 ?_
    refine z_ild (pc := 31) hc 4 rfl dL_become_31 ?_
    refine kc_L_26 (pc := 32) hc rfl (zfitG (Nat.le_of_ble_eq_true rfl) (fun i hi => by first | cases hi | (simp only [zflX, zfl0, Bool.or_eq_true, decide_eq_true_eq] at hi ⊢; omega)) (fun h => by first | rfl | cases h)) (Nat.le_of_ble_eq_true rfl) (ct_L_pin (zup M 38 (r + 1) (lyV (M 38 (r + 1)) c (zbz v))) 39 (Or.inl rfl) r c (by omega) (by omega)) dL_become_32 ?_
    refine kc_L_104 (pc := 35) hc rfl (zfitG (Nat.le_of_ble_eq_true rfl) (fun i hi => by first | cases hi | (simp only [zflX, zfl0, Bool.or_eq_true, decide_eq_true_eq] at hi ⊢; omega)) (fun h => by first | rfl | cases h)) (Nat.le_of_ble_eq_true rfl) (ct_L_layPin (zup M 38 (r + 1) (lyV (M 38 (r + 1)) c (zbz v))) 39 (Or.inl rfl) r c (piZ ((zup M 38 (r + 1) (lyV (M 38 (r + 1)) c (zbz v))) 39) r c) (by omega) (by omega)) dL_become_35 ?_
    refine z_ilw (pc := 38) hc 0 rfl dL_become_38 ?_
    refine z_ilw (pc := 40) hc 5 rfl dL_become_40 ?_
    refine z_cne (pc := 42) (tgt := 49) hc (by omega) (by decide) dL_become_42 (fun h42 => ?_) (fun h42 => ?_)
    · show zJW X 49 [(5, zI (zbz (laT t r c))), (0, zR 38), (1, zR 39), (2, zI r), (3, zI c), (4, zI (zbz v))] [] (zup (zup M 38 (r + 1) (lyV (M 38 (r + 1)) c (zbz v))) 39 (3 * r + c / 4) (lpV ((zup M 38 (r + 1) (lyV (M 38 (r + 1)) c (zbz v))) 39 (3 * r + c / 4)) c (piZ ((zup M 38 (r + 1) (lyV (M 38 (r + 1)) c (zbz v))) 39) r c)))
      refine z_iconst (pc := 49) hc 1 dL_become_49 ?_
      exact z_iret (pc := 50) hc he rfl dL_become_50 (by refine ⟨congrArg some ?_, ?_⟩; (first | (rw [zbz_ne] at h42; rw [show (laT t r c != v) = true by revert h42; cases laT t r c <;> cases v <;> simp]; rfl) | (rw [zbz_eq] at h42; rw [h42]; cases v <;> rfl)); (unfold beM; rw [e39, h21]; rfl))
    · show zJW X 45 [(5, zI (zbz (laT t r c))), (0, zR 38), (1, zR 39), (2, zI r), (3, zI c), (4, zI (zbz v))] [] (zup (zup M 38 (r + 1) (lyV (M 38 (r + 1)) c (zbz v))) 39 (3 * r + c / 4) (lpV ((zup M 38 (r + 1) (lyV (M 38 (r + 1)) c (zbz v))) 39 (3 * r + c / 4)) c (piZ ((zup M 38 (r + 1) (lyV (M 38 (r + 1)) c (zbz v))) 39) r c)))
      refine z_iconst (pc := 45) hc 0 dL_become_45 ?_
      refine z_goto (pc := 46) (tgt := 50) hc (by decide) dL_become_46 ?_
      exact z_iret (pc := 50) hc he rfl dL_become_50 (by refine ⟨congrArg some ?_, ?_⟩; (first | (rw [zbz_ne] at h42; rw [show (laT t r c != v) = true by revert h42; cases laT t r c <;> cases v <;> simp]; rfl) | (rw [zbz_eq] at h42; rw [h42]; cases v <;> rfl)); (unfold beM; rw [e39, h21]; rfl))
  · show zJW X 24 [(5, zI (zbz (laT t r c))), (0, zR 38), (1, zR 39), (2, zI r), (3, zI c), (4, zI (zbz v))] [zI c, zI r, zR 39] (zup M 38 (r + 1) (lyV (M 38 (r + 1)) c (zbz v)))
    refine z_bipush (pc := 24) hc 63 (by decide) dL_become_24 ?_
    refine z_goto (pc := 26) (tgt := 35) hc (by decide) dL_become_26 ?_
    refine kc_L_104 (pc := 35) hc rfl (zfitG (Nat.le_of_ble_eq_true rfl) (fun i hi => by first | cases hi | (simp only [zflX, zfl0, Bool.or_eq_true, decide_eq_true_eq] at hi ⊢; omega)) (fun h => by first | rfl | cases h)) (Nat.le_of_ble_eq_true rfl) (ct_L_layPin (zup M 38 (r + 1) (lyV (M 38 (r + 1)) c (zbz v))) 39 (Or.inl rfl) r c 63 (by omega) (by omega)) dL_become_35 ?_
    refine z_ilw (pc := 38) hc 0 rfl dL_become_38 ?_
    refine z_ilw (pc := 40) hc 5 rfl dL_become_40 ?_
    refine z_cne (pc := 42) (tgt := 49) hc (by omega) (by decide) dL_become_42 (fun h42 => ?_) (fun h42 => ?_)
    · show zJW X 49 [(5, zI (zbz (laT t r c))), (0, zR 38), (1, zR 39), (2, zI r), (3, zI c), (4, zI (zbz v))] [] (zup (zup M 38 (r + 1) (lyV (M 38 (r + 1)) c (zbz v))) 39 (3 * r + c / 4) (lpV ((zup M 38 (r + 1) (lyV (M 38 (r + 1)) c (zbz v))) 39 (3 * r + c / 4)) c 63))
      refine z_iconst (pc := 49) hc 1 dL_become_49 ?_
      exact z_iret (pc := 50) hc he rfl dL_become_50 (by refine ⟨congrArg some ?_, ?_⟩; (first | (rw [zbz_ne] at h42; rw [show (laT t r c != v) = true by revert h42; cases laT t r c <;> cases v <;> simp]; rfl) | (rw [zbz_eq] at h42; rw [h42]; cases v <;> rfl)); (unfold beM; rw [e39, h21]; rfl))
    · show zJW X 45 [(5, zI (zbz (laT t r c))), (0, zR 38), (1, zR 39), (2, zI r), (3, zI c), (4, zI (zbz v))] [] (zup (zup M 38 (r + 1) (lyV (M 38 (r + 1)) c (zbz v))) 39 (3 * r + c / 4) (lpV ((zup M 38 (r + 1) (lyV (M 38 (r + 1)) c (zbz v))) 39 (3 * r + c / 4)) c 63))
      refine z_iconst (pc := 45) hc 0 dL_become_45 ?_
      refine z_goto (pc := 46) (tgt := 50) hc (by decide) dL_become_46 ?_
      exact z_iret (pc := 50) hc he rfl dL_become_50 (by refine ⟨congrArg some ?_, ?_⟩; (first | (rw [zbz_ne] at h42; rw [show (laT t r c != v) = true by revert h42; cases laT t r c <;> cases v <;> simp]; rfl) | (rw [zbz_eq] at h42; rw [h42]; cases v <;> rfl)); (unfold beM; rw [e39, h21]; rfl))

set_option maxRecDepth 100000 in
set_option maxHeartbeats 4000000 in
theorem ct_L_other (M : Mem) (t t2 : TS) (hF : p4F (M 38) t) (hP : p4P (M 39) t) (hF2 : p4F (M 41) t2) (hP2 : p4P (M 42) t2) (hO : TOk t) (hO2 : TOk t2) (hd : tH t2 = tH t ∧ tW t2 = tW t) (hT : M 40 0 = tH t ∧ M 40 1 = tW t) : zCt yL_other (KL_other 38 39 41 42 40) [zR 38, zR 39, zR 41, zR 42, zR 40] M (fun zv zM => zv = some (otS t t2) ∧ zM = M) := by
  obtain ⟨hO1, hO2a, hO3, hO4, hO5⟩ := id hO
  have hw9 := zhw (h := M 40 0) (w := M 40 1) (by omega) (by omega) (by omega) (by omega)
  refine z_met (by decide) rfl (Nat.le_of_ble_eq_true rfl) (fun X hc he => ?_)
  show zJW X 0 [(0, zR 38), (1, zR 39), (2, zR 41), (3, zR 42), (4, zR 40)] [] M
  refine z_iconst (pc := 0) hc 0 dL_other_0 ?_
  refine z_isw (pc := 1) (lv' := [(5, zI 0), (0, zR 38), (1, zR 39), (2, zR 41), (3, zR 42), (4, zR 40)]) hc rfl (Nat.le_of_ble_eq_true rfl) dL_other_1 ?_
  refine z_iconst (pc := 3) hc 0 dL_other_3 ?_
  refine z_isw (pc := 4) (lv' := [(6, zI 0), (5, zI 0), (0, zR 38), (1, zR 39), (2, zR 41), (3, zR 42), (4, zR 40)]) hc rfl (Nat.le_of_ble_eq_true rfl) dL_other_4 ?_
  refine z_for ((M 40 0 * M 40 1).toNat) (fun i6 => [(6, zI (i6 : Int)), (5, zI (zS1 (fun k : Nat => if laT t ((k : Int) / M 40 1) ((k : Int) % M 40 1) = true ∧ laT t2 ((k : Int) / M 40 1) ((k : Int) % M 40 1) = true ∧ mhT t ((k : Int) / M 40 1) ((k : Int) % M 40 1) ≠ mhT t2 ((k : Int) / M 40 1) ((k : Int) % M 40 1) then 1 else 0) i6)), (0, zR 38), (1, zR 39), (2, zR 41), (3, zR 42), (4, zR 40)]) (fun i6 => M) (by rfl) (by rfl) ?_ (fun i6 hi6 ih6 => ?_)
  · show zJW X 6 [(6, zI (((M 40 0 * M 40 1).toNat) : Int)), (5, zI (zS1 (fun k : Nat => if laT t ((k : Int) / M 40 1) ((k : Int) % M 40 1) = true ∧ laT t2 ((k : Int) / M 40 1) ((k : Int) % M 40 1) = true ∧ mhT t ((k : Int) / M 40 1) ((k : Int) % M 40 1) ≠ mhT t2 ((k : Int) / M 40 1) ((k : Int) % M 40 1) then 1 else 0) ((M 40 0 * M 40 1).toNat))), (0, zR 38), (1, zR 39), (2, zR 41), (3, zR 42), (4, zR 40)] [] M
    refine z_ilw (pc := 6) hc 0 rfl dL_other_6 ?_
    refine z_alw (pc := 8) hc 6 rfl dL_other_8 ?_
    refine z_iconst (pc := 10) hc 0 dL_other_10 ?_
    refine z_iald (pc := 11) hc (by decide) rfl rfl (by decide) (by omega) dL_other_11 ?_
    refine z_alw (pc := 12) hc 6 rfl dL_other_12 ?_
    refine z_iconst (pc := 14) hc 1 dL_other_14 ?_
    refine z_iald (pc := 15) hc (by decide) rfl rfl (by decide) (by omega) dL_other_15 ?_
    refine z_imul (pc := 16) hc dL_other_16 ?_
    refine z_cge (pc := 17) (tgt := 99) hc (by omega) (by decide) dL_other_17 (fun h17 => ?_) (fun h17 => ?_)
    · show zJW X 99 [(6, zI (((M 40 0 * M 40 1).toNat) : Int)), (5, zI (zS1 (fun k : Nat => if laT t ((k : Int) / M 40 1) ((k : Int) % M 40 1) = true ∧ laT t2 ((k : Int) / M 40 1) ((k : Int) % M 40 1) = true ∧ mhT t ((k : Int) / M 40 1) ((k : Int) % M 40 1) ≠ mhT t2 ((k : Int) / M 40 1) ((k : Int) % M 40 1) then 1 else 0) ((M 40 0 * M 40 1).toNat))), (0, zR 38), (1, zR 39), (2, zR 41), (3, zR 42), (4, zR 40)] [] M
      refine z_ilw (pc := 99) hc 1 rfl dL_other_99 ?_
      exact z_iret (pc := 101) hc he rfl dL_other_101 (by refine ⟨congrArg some ?_, rfl⟩; exact otS_k hT.1 hT.2 ⟨by omega, by omega⟩)
    · exfalso; omega
  · show zJW X 6 [(6, zI (i6 : Int)), (5, zI (zS1 (fun k : Nat => if laT t ((k : Int) / M 40 1) ((k : Int) % M 40 1) = true ∧ laT t2 ((k : Int) / M 40 1) ((k : Int) % M 40 1) = true ∧ mhT t ((k : Int) / M 40 1) ((k : Int) % M 40 1) ≠ mhT t2 ((k : Int) / M 40 1) ((k : Int) % M 40 1) then 1 else 0) i6)), (0, zR 38), (1, zR 39), (2, zR 41), (3, zR 42), (4, zR 40)] [] M
    have hk := zkx (h := M 40 0) (w := M 40 1) (k := (i6 : Int)) ⟨by omega, by omega⟩ (by omega)
    have hi1 : inT t ((i6 : Int) / M 40 1) ((i6 : Int) % M 40 1) = true := inT_of (by omega)
    have hi2 : inT t2 ((i6 : Int) / M 40 1) ((i6 : Int) % M 40 1) = true := inT_of (by omega)
    have zb1 := zbz_bd (laT t ((i6 : Int) / M 40 1) ((i6 : Int) % M 40 1))
    have zb2 := zbz_bd (laT t2 ((i6 : Int) / M 40 1) ((i6 : Int) % M 40 1))
    have hm1 := mhT_bd hO ((i6 : Int) / M 40 1) ((i6 : Int) % M 40 1)
    have hm2 := mhT_bd hO2 ((i6 : Int) / M 40 1) ((i6 : Int) % M 40 1)
    refine z_ilw (pc := 6) hc 0 rfl dL_other_6 ?_
    refine z_alw (pc := 8) hc 6 rfl dL_other_8 ?_
    refine z_iconst (pc := 10) hc 0 dL_other_10 ?_
    refine z_iald (pc := 11) hc (by decide) rfl rfl (by decide) (by omega) dL_other_11 ?_
    refine z_alw (pc := 12) hc 6 rfl dL_other_12 ?_
    refine z_iconst (pc := 14) hc 1 dL_other_14 ?_
    refine z_iald (pc := 15) hc (by decide) rfl rfl (by decide) (by omega) dL_other_15 ?_
    refine z_imul (pc := 16) hc dL_other_16 ?_
    refine z_cge (pc := 17) (tgt := 99) hc (by omega) (by decide) dL_other_17 (fun h17 => ?_) (fun h17 => ?_)
    · exfalso; omega
    · show zJW X 20 [(6, zI (i6 : Int)), (5, zI (zS1 (fun k : Nat => if laT t ((k : Int) / M 40 1) ((k : Int) % M 40 1) = true ∧ laT t2 ((k : Int) / M 40 1) ((k : Int) % M 40 1) = true ∧ mhT t ((k : Int) / M 40 1) ((k : Int) % M 40 1) ≠ mhT t2 ((k : Int) / M 40 1) ((k : Int) % M 40 1) then 1 else 0) i6)), (0, zR 38), (1, zR 39), (2, zR 41), (3, zR 42), (4, zR 40)] [] M
      refine z_ilw (pc := 20) hc 0 rfl dL_other_20 ?_
      refine z_alw (pc := 22) hc 6 rfl dL_other_22 ?_
      refine z_iconst (pc := 24) hc 1 dL_other_24 ?_
      refine z_iald (pc := 25) hc (by decide) rfl rfl (by decide) (by omega) dL_other_25 ?_
      refine z_idiv (pc := 26) hc (by omega) dL_other_26 ?_
      refine z_isw (pc := 27) (lv' := [(7, zI ((i6 : Int) / (M 40 1))), (6, zI (i6 : Int)), (5, zI (zS1 (fun k : Nat => if laT t ((k : Int) / M 40 1) ((k : Int) % M 40 1) = true ∧ laT t2 ((k : Int) / M 40 1) ((k : Int) % M 40 1) = true ∧ mhT t ((k : Int) / M 40 1) ((k : Int) % M 40 1) ≠ mhT t2 ((k : Int) / M 40 1) ((k : Int) % M 40 1) then 1 else 0) i6)), (0, zR 38), (1, zR 39), (2, zR 41), (3, zR 42), (4, zR 40)]) hc rfl (Nat.le_of_ble_eq_true rfl) dL_other_27 ?_
      refine z_ilw (pc := 29) hc 1 rfl dL_other_29 ?_
      refine z_alw (pc := 31) hc 7 rfl dL_other_31 ?_
      refine z_iconst (pc := 33) hc 1 dL_other_33 ?_
      refine z_iald (pc := 34) hc (by decide) rfl rfl (by decide) (by omega) dL_other_34 ?_
      refine z_irem (pc := 35) hc (by omega) dL_other_35 ?_
      refine z_isw (pc := 36) (lv' := [(8, zI ((i6 : Int) % (M 40 1))), (7, zI ((i6 : Int) / (M 40 1))), (6, zI (i6 : Int)), (5, zI (zS1 (fun k : Nat => if laT t ((k : Int) / M 40 1) ((k : Int) % M 40 1) = true ∧ laT t2 ((k : Int) / M 40 1) ((k : Int) % M 40 1) = true ∧ mhT t ((k : Int) / M 40 1) ((k : Int) % M 40 1) ≠ mhT t2 ((k : Int) / M 40 1) ((k : Int) % M 40 1) then 1 else 0) i6)), (0, zR 38), (1, zR 39), (2, zR 41), (3, zR 42), (4, zR 40)]) hc rfl (Nat.le_of_ble_eq_true rfl) dL_other_36 ?_
      refine z_ilw (pc := 38) hc 3 rfl dL_other_38 ?_
      refine z_ald (pc := 40) hc 4 rfl dL_other_40 ?_
      refine z_ilw (pc := 41) hc 1 rfl dL_other_41 ?_
      refine z_ilw (pc := 43) hc 0 rfl dL_other_43 ?_
      refine kc_L_19 (pc := 45) hc rfl (zfitG (Nat.le_of_ble_eq_true rfl) (fun i hi => by first | cases hi | (simp only [zflX, zfl0, Bool.or_eq_true, decide_eq_true_eq] at hi ⊢; omega)) (fun h => by first | rfl | cases h)) (Nat.le_of_ble_eq_true rfl) (ct_L_landT M 38 (Or.inl rfl) t hF hO ((i6 : Int) / (M 40 1)) ((i6 : Int) % (M 40 1)) (by omega)) dL_other_45 ?_
      refine z_iconst (pc := 48) hc 1 dL_other_48 ?_
      refine z_cne (pc := 49) (tgt := 89) hc (by omega) (by decide) dL_other_49 (fun h49 => ?_) (fun h49 => ?_)
      · show zJW X 89 [(8, zI ((i6 : Int) % (M 40 1))), (7, zI ((i6 : Int) / (M 40 1))), (6, zI (i6 : Int)), (5, zI (zS1 (fun k : Nat => if laT t ((k : Int) / M 40 1) ((k : Int) % M 40 1) = true ∧ laT t2 ((k : Int) / M 40 1) ((k : Int) % M 40 1) = true ∧ mhT t ((k : Int) / M 40 1) ((k : Int) % M 40 1) ≠ mhT t2 ((k : Int) / M 40 1) ((k : Int) % M 40 1) then 1 else 0) i6)), (0, zR 38), (1, zR 39), (2, zR 41), (3, zR 42), (4, zR 40)] [zI (zS1 (fun k : Nat => if laT t ((k : Int) / M 40 1) ((k : Int) % M 40 1) = true ∧ laT t2 ((k : Int) / M 40 1) ((k : Int) % M 40 1) = true ∧ mhT t ((k : Int) / M 40 1) ((k : Int) % M 40 1) ≠ mhT t2 ((k : Int) / M 40 1) ((k : Int) % M 40 1) then 1 else 0) i6)] M
        refine z_iconst (pc := 89) hc 0 dL_other_89 ?_
        refine z_iadd (pc := 90) hc dL_other_90 ?_
        refine z_isw (pc := 91) (lv' := [(5, zI (zS1 (fun k : Nat => if laT t ((k : Int) / M 40 1) ((k : Int) % M 40 1) = true ∧ laT t2 ((k : Int) / M 40 1) ((k : Int) % M 40 1) = true ∧ mhT t ((k : Int) / M 40 1) ((k : Int) % M 40 1) ≠ mhT t2 ((k : Int) / M 40 1) ((k : Int) % M 40 1) then 1 else 0) i6 + 0)), (8, zI ((i6 : Int) % (M 40 1))), (7, zI ((i6 : Int) / (M 40 1))), (6, zI (i6 : Int)), (0, zR 38), (1, zR 39), (2, zR 41), (3, zR 42), (4, zR 40)]) hc rfl (Nat.le_of_ble_eq_true rfl) dL_other_91 ?_
        refine z_iinc (pc := 93) (lv' := [(6, zI ((i6 : Int) + 1)), (5, zI (zS1 (fun k : Nat => if laT t ((k : Int) / M 40 1) ((k : Int) % M 40 1) = true ∧ laT t2 ((k : Int) / M 40 1) ((k : Int) % M 40 1) = true ∧ mhT t ((k : Int) / M 40 1) ((k : Int) % M 40 1) ≠ mhT t2 ((k : Int) / M 40 1) ((k : Int) % M 40 1) then 1 else 0) i6 + 0)), (8, zI ((i6 : Int) % (M 40 1))), (7, zI ((i6 : Int) / (M 40 1))), (0, zR 38), (1, zR 39), (2, zR 41), (3, zR 42), (4, zR 40)]) hc 3 rfl rfl (Nat.le_of_ble_eq_true rfl) dL_other_93 ?_
        refine z_goto (pc := 96) (tgt := 6) hc (by decide) dL_other_96 ?_
        refine zJW_sub (lv' := [(6, zI ((i6 : Int) + 1)), (5, zI (zS1 (fun k : Nat => if laT t ((k : Int) / M 40 1) ((k : Int) % M 40 1) = true ∧ laT t2 ((k : Int) / M 40 1) ((k : Int) % M 40 1) = true ∧ mhT t ((k : Int) / M 40 1) ((k : Int) % M 40 1) ≠ mhT t2 ((k : Int) / M 40 1) ((k : Int) % M 40 1) then 1 else 0) i6 + 0)), (0, zR 38), (1, zR 39), (2, zR 41), (3, zR 42), (4, zR 40)]) [0, 1, 4, 5, 6, 7, 8] rfl ?_
        exact zJW_eq (by rw [zS1_s]; first | (rw [if_pos ⟨p4_b1 h49, p4_b1 h61, h82⟩] <;> rfl) | (rw [if_neg (fun h => h.2.2 h82)] <;> rfl) | (rw [if_neg (fun h => p4_b0 h61 h.2.1)] <;> rfl) | (rw [if_neg (fun h => p4_b0 h49 h.1)] <;> rfl)) rfl (by rfl) ih6
      · show zJW X 52 [(8, zI ((i6 : Int) % (M 40 1))), (7, zI ((i6 : Int) / (M 40 1))), (6, zI (i6 : Int)), (5, zI (zS1 (fun k : Nat => if laT t ((k : Int) / M 40 1) ((k : Int) % M 40 1) = true ∧ laT t2 ((k : Int) / M 40 1) ((k : Int) % M 40 1) = true ∧ mhT t ((k : Int) / M 40 1) ((k : Int) % M 40 1) ≠ mhT t2 ((k : Int) / M 40 1) ((k : Int) % M 40 1) then 1 else 0) i6)), (0, zR 38), (1, zR 39), (2, zR 41), (3, zR 42), (4, zR 40)] [zI (zS1 (fun k : Nat => if laT t ((k : Int) / M 40 1) ((k : Int) % M 40 1) = true ∧ laT t2 ((k : Int) / M 40 1) ((k : Int) % M 40 1) = true ∧ mhT t ((k : Int) / M 40 1) ((k : Int) % M 40 1) ≠ mhT t2 ((k : Int) / M 40 1) ((k : Int) % M 40 1) then 1 else 0) i6)] M
        refine z_ald (pc := 52) hc 6 rfl dL_other_52 ?_
        refine z_ilw (pc := 53) hc 1 rfl dL_other_53 ?_
        refine z_ilw (pc := 55) hc 0 rfl dL_other_55 ?_
        refine kc_L_19 (pc := 57) hc rfl (zfitG (Nat.le_of_ble_eq_true rfl) (fun i hi => by first | cases hi | (simp only [zflX, zfl0, Bool.or_eq_true, decide_eq_true_eq] at hi ⊢; omega)) (fun h => by first | rfl | cases h)) (Nat.le_of_ble_eq_true rfl) (ct_L_landT M 41 (Or.inr rfl) t2 hF2 hO2 ((i6 : Int) / (M 40 1)) ((i6 : Int) % (M 40 1)) (by omega)) dL_other_57 ?_
        refine z_iconst (pc := 60) hc 1 dL_other_60 ?_
        refine z_cne (pc := 61) (tgt := 89) hc (by omega) (by decide) dL_other_61 (fun h61 => ?_) (fun h61 => ?_)
        · show zJW X 89 [(8, zI ((i6 : Int) % (M 40 1))), (7, zI ((i6 : Int) / (M 40 1))), (6, zI (i6 : Int)), (5, zI (zS1 (fun k : Nat => if laT t ((k : Int) / M 40 1) ((k : Int) % M 40 1) = true ∧ laT t2 ((k : Int) / M 40 1) ((k : Int) % M 40 1) = true ∧ mhT t ((k : Int) / M 40 1) ((k : Int) % M 40 1) ≠ mhT t2 ((k : Int) / M 40 1) ((k : Int) % M 40 1) then 1 else 0) i6)), (0, zR 38), (1, zR 39), (2, zR 41), (3, zR 42), (4, zR 40)] [zI (zS1 (fun k : Nat => if laT t ((k : Int) / M 40 1) ((k : Int) % M 40 1) = true ∧ laT t2 ((k : Int) / M 40 1) ((k : Int) % M 40 1) = true ∧ mhT t ((k : Int) / M 40 1) ((k : Int) % M 40 1) ≠ mhT t2 ((k : Int) / M 40 1) ((k : Int) % M 40 1) then 1 else 0) i6)] M
          refine z_iconst (pc := 89) hc 0 dL_other_89 ?_
          refine z_iadd (pc := 90) hc dL_other_90 ?_
          refine z_isw (pc := 91) (lv' := [(5, zI (zS1 (fun k : Nat => if laT t ((k : Int) / M 40 1) ((k : Int) % M 40 1) = true ∧ laT t2 ((k : Int) / M 40 1) ((k : Int) % M 40 1) = true ∧ mhT t ((k : Int) / M 40 1) ((k : Int) % M 40 1) ≠ mhT t2 ((k : Int) / M 40 1) ((k : Int) % M 40 1) then 1 else 0) i6 + 0)), (8, zI ((i6 : Int) % (M 40 1))), (7, zI ((i6 : Int) / (M 40 1))), (6, zI (i6 : Int)), (0, zR 38), (1, zR 39), (2, zR 41), (3, zR 42), (4, zR 40)]) hc rfl (Nat.le_of_ble_eq_true rfl) dL_other_91 ?_
          refine z_iinc (pc := 93) (lv' := [(6, zI ((i6 : Int) + 1)), (5, zI (zS1 (fun k : Nat => if laT t ((k : Int) / M 40 1) ((k : Int) % M 40 1) = true ∧ laT t2 ((k : Int) / M 40 1) ((k : Int) % M 40 1) = true ∧ mhT t ((k : Int) / M 40 1) ((k : Int) % M 40 1) ≠ mhT t2 ((k : Int) / M 40 1) ((k : Int) % M 40 1) then 1 else 0) i6 + 0)), (8, zI ((i6 : Int) % (M 40 1))), (7, zI ((i6 : Int) / (M 40 1))), (0, zR 38), (1, zR 39), (2, zR 41), (3, zR 42), (4, zR 40)]) hc 3 rfl rfl (Nat.le_of_ble_eq_true rfl) dL_other_93 ?_
          refine z_goto (pc := 96) (tgt := 6) hc (by decide) dL_other_96 ?_
          refine zJW_sub (lv' := [(6, zI ((i6 : Int) + 1)), (5, zI (zS1 (fun k : Nat => if laT t ((k : Int) / M 40 1) ((k : Int) % M 40 1) = true ∧ laT t2 ((k : Int) / M 40 1) ((k : Int) % M 40 1) = true ∧ mhT t ((k : Int) / M 40 1) ((k : Int) % M 40 1) ≠ mhT t2 ((k : Int) / M 40 1) ((k : Int) % M 40 1) then 1 else 0) i6 + 0)), (0, zR 38), (1, zR 39), (2, zR 41), (3, zR 42), (4, zR 40)]) [0, 1, 4, 5, 6, 7, 8] rfl ?_
          exact zJW_eq (by rw [zS1_s]; first | (rw [if_pos ⟨p4_b1 h49, p4_b1 h61, h82⟩] <;> rfl) | (rw [if_neg (fun h => h.2.2 h82)] <;> rfl) | (rw [if_neg (fun h => p4_b0 h61 h.2.1)] <;> rfl) | (rw [if_neg (fun h => p4_b0 h49 h.1)] <;> rfl)) rfl (by rfl) ih6
        · show zJW X 64 [(8, zI ((i6 : Int) % (M 40 1))), (7, zI ((i6 : Int) / (M 40 1))), (6, zI (i6 : Int)), (5, zI (zS1 (fun k : Nat => if laT t ((k : Int) / M 40 1) ((k : Int) % M 40 1) = true ∧ laT t2 ((k : Int) / M 40 1) ((k : Int) % M 40 1) = true ∧ mhT t ((k : Int) / M 40 1) ((k : Int) % M 40 1) ≠ mhT t2 ((k : Int) / M 40 1) ((k : Int) % M 40 1) then 1 else 0) i6)), (0, zR 38), (1, zR 39), (2, zR 41), (3, zR 42), (4, zR 40)] [zI (zS1 (fun k : Nat => if laT t ((k : Int) / M 40 1) ((k : Int) % M 40 1) = true ∧ laT t2 ((k : Int) / M 40 1) ((k : Int) % M 40 1) = true ∧ mhT t ((k : Int) / M 40 1) ((k : Int) % M 40 1) ≠ mhT t2 ((k : Int) / M 40 1) ((k : Int) % M 40 1) then 1 else 0) i6)] M
          refine z_ald (pc := 64) hc 4 rfl dL_other_64 ?_
          refine z_ald (pc := 65) hc 5 rfl dL_other_65 ?_
          refine z_ilw (pc := 66) hc 1 rfl dL_other_66 ?_
          refine z_ilw (pc := 68) hc 0 rfl dL_other_68 ?_
          refine kc_L_37 (pc := 70) hc rfl (zfitG (Nat.le_of_ble_eq_true rfl) (fun i hi => by first | cases hi | (simp only [zflX, zfl0, Bool.or_eq_true, decide_eq_true_eq] at hi ⊢; omega)) (fun h => by first | rfl | cases h)) (Nat.le_of_ble_eq_true rfl) (ct_L_has M 38 (Or.inl rfl) 39 (Or.inl rfl) t hF hP hO ((i6 : Int) / (M 40 1)) ((i6 : Int) % (M 40 1)) hi1) dL_other_70 ?_
          refine z_ald (pc := 73) hc 6 rfl dL_other_73 ?_
          refine z_ald (pc := 74) hc 7 rfl dL_other_74 ?_
          refine z_ilw (pc := 75) hc 1 rfl dL_other_75 ?_
          refine z_ilw (pc := 77) hc 0 rfl dL_other_77 ?_
          refine kc_L_37 (pc := 79) hc rfl (zfitG (Nat.le_of_ble_eq_true rfl) (fun i hi => by first | cases hi | (simp only [zflX, zfl0, Bool.or_eq_true, decide_eq_true_eq] at hi ⊢; omega)) (fun h => by first | rfl | cases h)) (Nat.le_of_ble_eq_true rfl) (ct_L_has M 41 (Or.inr rfl) 42 (Or.inr rfl) t2 hF2 hP2 hO2 ((i6 : Int) / (M 40 1)) ((i6 : Int) % (M 40 1)) hi2) dL_other_79 ?_
          refine z_ceq (pc := 82) (tgt := 89) hc (by omega) (by decide) dL_other_82 (fun h82 => ?_) (fun h82 => ?_)
          · show zJW X 89 [(8, zI ((i6 : Int) % (M 40 1))), (7, zI ((i6 : Int) / (M 40 1))), (6, zI (i6 : Int)), (5, zI (zS1 (fun k : Nat => if laT t ((k : Int) / M 40 1) ((k : Int) % M 40 1) = true ∧ laT t2 ((k : Int) / M 40 1) ((k : Int) % M 40 1) = true ∧ mhT t ((k : Int) / M 40 1) ((k : Int) % M 40 1) ≠ mhT t2 ((k : Int) / M 40 1) ((k : Int) % M 40 1) then 1 else 0) i6)), (0, zR 38), (1, zR 39), (2, zR 41), (3, zR 42), (4, zR 40)] [zI (zS1 (fun k : Nat => if laT t ((k : Int) / M 40 1) ((k : Int) % M 40 1) = true ∧ laT t2 ((k : Int) / M 40 1) ((k : Int) % M 40 1) = true ∧ mhT t ((k : Int) / M 40 1) ((k : Int) % M 40 1) ≠ mhT t2 ((k : Int) / M 40 1) ((k : Int) % M 40 1) then 1 else 0) i6)] M
            refine z_iconst (pc := 89) hc 0 dL_other_89 ?_
            refine z_iadd (pc := 90) hc dL_other_90 ?_
            refine z_isw (pc := 91) (lv' := [(5, zI (zS1 (fun k : Nat => if laT t ((k : Int) / M 40 1) ((k : Int) % M 40 1) = true ∧ laT t2 ((k : Int) / M 40 1) ((k : Int) % M 40 1) = true ∧ mhT t ((k : Int) / M 40 1) ((k : Int) % M 40 1) ≠ mhT t2 ((k : Int) / M 40 1) ((k : Int) % M 40 1) then 1 else 0) i6 + 0)), (8, zI ((i6 : Int) % (M 40 1))), (7, zI ((i6 : Int) / (M 40 1))), (6, zI (i6 : Int)), (0, zR 38), (1, zR 39), (2, zR 41), (3, zR 42), (4, zR 40)]) hc rfl (Nat.le_of_ble_eq_true rfl) dL_other_91 ?_
            refine z_iinc (pc := 93) (lv' := [(6, zI ((i6 : Int) + 1)), (5, zI (zS1 (fun k : Nat => if laT t ((k : Int) / M 40 1) ((k : Int) % M 40 1) = true ∧ laT t2 ((k : Int) / M 40 1) ((k : Int) % M 40 1) = true ∧ mhT t ((k : Int) / M 40 1) ((k : Int) % M 40 1) ≠ mhT t2 ((k : Int) / M 40 1) ((k : Int) % M 40 1) then 1 else 0) i6 + 0)), (8, zI ((i6 : Int) % (M 40 1))), (7, zI ((i6 : Int) / (M 40 1))), (0, zR 38), (1, zR 39), (2, zR 41), (3, zR 42), (4, zR 40)]) hc 3 rfl rfl (Nat.le_of_ble_eq_true rfl) dL_other_93 ?_
            refine z_goto (pc := 96) (tgt := 6) hc (by decide) dL_other_96 ?_
            refine zJW_sub (lv' := [(6, zI ((i6 : Int) + 1)), (5, zI (zS1 (fun k : Nat => if laT t ((k : Int) / M 40 1) ((k : Int) % M 40 1) = true ∧ laT t2 ((k : Int) / M 40 1) ((k : Int) % M 40 1) = true ∧ mhT t ((k : Int) / M 40 1) ((k : Int) % M 40 1) ≠ mhT t2 ((k : Int) / M 40 1) ((k : Int) % M 40 1) then 1 else 0) i6 + 0)), (0, zR 38), (1, zR 39), (2, zR 41), (3, zR 42), (4, zR 40)]) [0, 1, 4, 5, 6, 7, 8] rfl ?_
            exact zJW_eq (by rw [zS1_s]; first | (rw [if_pos ⟨p4_b1 h49, p4_b1 h61, h82⟩] <;> rfl) | (rw [if_neg (fun h => h.2.2 h82)] <;> rfl) | (rw [if_neg (fun h => p4_b0 h61 h.2.1)] <;> rfl) | (rw [if_neg (fun h => p4_b0 h49 h.1)] <;> rfl)) rfl (by rfl) ih6
          · show zJW X 85 [(8, zI ((i6 : Int) % (M 40 1))), (7, zI ((i6 : Int) / (M 40 1))), (6, zI (i6 : Int)), (5, zI (zS1 (fun k : Nat => if laT t ((k : Int) / M 40 1) ((k : Int) % M 40 1) = true ∧ laT t2 ((k : Int) / M 40 1) ((k : Int) % M 40 1) = true ∧ mhT t ((k : Int) / M 40 1) ((k : Int) % M 40 1) ≠ mhT t2 ((k : Int) / M 40 1) ((k : Int) % M 40 1) then 1 else 0) i6)), (0, zR 38), (1, zR 39), (2, zR 41), (3, zR 42), (4, zR 40)] [zI (zS1 (fun k : Nat => if laT t ((k : Int) / M 40 1) ((k : Int) % M 40 1) = true ∧ laT t2 ((k : Int) / M 40 1) ((k : Int) % M 40 1) = true ∧ mhT t ((k : Int) / M 40 1) ((k : Int) % M 40 1) ≠ mhT t2 ((k : Int) / M 40 1) ((k : Int) % M 40 1) then 1 else 0) i6)] M
            refine z_iconst (pc := 85) hc 1 dL_other_85 ?_
            refine z_goto (pc := 86) (tgt := 90) hc (by decide) dL_other_86 ?_
            refine z_iadd (pc := 90) hc dL_other_90 ?_
            refine z_isw (pc := 91) (lv' := [(5, zI (zS1 (fun k : Nat => if laT t ((k : Int) / M 40 1) ((k : Int) % M 40 1) = true ∧ laT t2 ((k : Int) / M 40 1) ((k : Int) % M 40 1) = true ∧ mhT t ((k : Int) / M 40 1) ((k : Int) % M 40 1) ≠ mhT t2 ((k : Int) / M 40 1) ((k : Int) % M 40 1) then 1 else 0) i6 + 1)), (8, zI ((i6 : Int) % (M 40 1))), (7, zI ((i6 : Int) / (M 40 1))), (6, zI (i6 : Int)), (0, zR 38), (1, zR 39), (2, zR 41), (3, zR 42), (4, zR 40)]) hc rfl (Nat.le_of_ble_eq_true rfl) dL_other_91 ?_
            refine z_iinc (pc := 93) (lv' := [(6, zI ((i6 : Int) + 1)), (5, zI (zS1 (fun k : Nat => if laT t ((k : Int) / M 40 1) ((k : Int) % M 40 1) = true ∧ laT t2 ((k : Int) / M 40 1) ((k : Int) % M 40 1) = true ∧ mhT t ((k : Int) / M 40 1) ((k : Int) % M 40 1) ≠ mhT t2 ((k : Int) / M 40 1) ((k : Int) % M 40 1) then 1 else 0) i6 + 1)), (8, zI ((i6 : Int) % (M 40 1))), (7, zI ((i6 : Int) / (M 40 1))), (0, zR 38), (1, zR 39), (2, zR 41), (3, zR 42), (4, zR 40)]) hc 3 rfl rfl (Nat.le_of_ble_eq_true rfl) dL_other_93 ?_
            refine z_goto (pc := 96) (tgt := 6) hc (by decide) dL_other_96 ?_
            refine zJW_sub (lv' := [(6, zI ((i6 : Int) + 1)), (5, zI (zS1 (fun k : Nat => if laT t ((k : Int) / M 40 1) ((k : Int) % M 40 1) = true ∧ laT t2 ((k : Int) / M 40 1) ((k : Int) % M 40 1) = true ∧ mhT t ((k : Int) / M 40 1) ((k : Int) % M 40 1) ≠ mhT t2 ((k : Int) / M 40 1) ((k : Int) % M 40 1) then 1 else 0) i6 + 1)), (0, zR 38), (1, zR 39), (2, zR 41), (3, zR 42), (4, zR 40)]) [0, 1, 4, 5, 6, 7, 8] rfl ?_
            exact zJW_eq (by rw [zS1_s]; first | (rw [if_pos ⟨p4_b1 h49, p4_b1 h61, h82⟩] <;> rfl) | (rw [if_neg (fun h => h.2.2 h82)] <;> rfl) | (rw [if_neg (fun h => p4_b0 h61 h.2.1)] <;> rfl) | (rw [if_neg (fun h => p4_b0 h49 h.1)] <;> rfl)) rfl (by rfl) ih6

set_option maxRecDepth 100000 in
set_option maxHeartbeats 4000000 in
theorem ct_L_copy_38_41 (M : Mem) : zCt yL_copy (KL_copy 38 41) [zR 38, zR 41] M (fun zv zM => zv = none ∧ zM = cpM M 38 41 14) := by
  refine z_met (by decide) rfl (Nat.le_of_ble_eq_true rfl) (fun X hc he => ?_)
  show zJW X 0 [(0, zR 38), (1, zR 41)] [] M
  refine z_iconst (pc := 0) hc 0 dL_copy_0 ?_
  refine z_ist (pc := 1) (lv' := [(2, zI 0), (0, zR 38), (1, zR 41)]) hc rfl (Nat.le_of_ble_eq_true rfl) dL_copy_1 ?_
  refine z_for 14 (fun i2 => [(2, zI (i2 : Int)), (0, zR 38), (1, zR 41)]) (fun i2 => (cpM M 38 41 (i2 : Int))) (by rfl) (by exact cpM_0) ?_ (fun i2 hi2 ih2 => ?_)
  · show zJW X 2 [(2, zI (14 : Int)), (0, zR 38), (1, zR 41)] [] (cpM M 38 41 (14 : Int))
    refine z_ild (pc := 2) hc 0 rfl dL_copy_2 ?_
    refine z_ald (pc := 3) hc 1 rfl dL_copy_3 ?_
    refine z_alen (pc := 4) (n := 14) hc (by decide) rfl rfl (by decide) dL_copy_4 ?_
    refine z_cge (pc := 5) (tgt := 20) hc (by omega) (by decide) dL_copy_5 (fun h5 => ?_) (fun h5 => ?_)
    · show zJW X 20 [(2, zI (14 : Int)), (0, zR 38), (1, zR 41)] [] (cpM M 38 41 (14 : Int))
      exact z_vret (pc := 20) hc he rfl dL_copy_20 (⟨rfl, rfl⟩)
    · exfalso; omega
  · show zJW X 2 [(2, zI (i2 : Int)), (0, zR 38), (1, zR 41)] [] (cpM M 38 41 (i2 : Int))
    refine z_ild (pc := 2) hc 0 rfl dL_copy_2 ?_
    refine z_ald (pc := 3) hc 1 rfl dL_copy_3 ?_
    refine z_alen (pc := 4) (n := 14) hc (by decide) rfl rfl (by decide) dL_copy_4 ?_
    refine z_cge (pc := 5) (tgt := 20) hc (by omega) (by decide) dL_copy_5 (fun h5 => ?_) (fun h5 => ?_)
    · exfalso; omega
    · show zJW X 8 [(2, zI (i2 : Int)), (0, zR 38), (1, zR 41)] [] (cpM M 38 41 (i2 : Int))
      refine z_ald (pc := 8) hc 2 rfl dL_copy_8 ?_
      refine z_ild (pc := 9) hc 0 rfl dL_copy_9 ?_
      refine z_ald (pc := 10) hc 1 rfl dL_copy_10 ?_
      refine z_ild (pc := 11) hc 0 rfl dL_copy_11 ?_
      refine z_iald (pc := 12) hc (by decide) rfl rfl (by decide) (by omega) dL_copy_12 ?_
      refine z_iast (pc := 13) hc (by decide) rfl rfl (by decide) (by omega) dL_copy_13 ?_
      refine z_iinc (pc := 14) (lv' := [(2, zI ((i2 : Int) + 1)), (0, zR 38), (1, zR 41)]) hc 0 rfl rfl (Nat.le_of_ble_eq_true rfl) dL_copy_14 ?_
      refine z_goto (pc := 17) (tgt := 2) hc (by decide) dL_copy_17 ?_
      exact zJW_eq (by rfl) rfl (by exact cpM_s (by decide) i2) ih2

set_option maxRecDepth 100000 in
set_option maxHeartbeats 4000000 in
theorem ct_L_copy_39_42 (M : Mem) : zCt yL_copy (KL_copy 39 42) [zR 39, zR 42] M (fun zv zM => zv = none ∧ zM = cpM M 39 42 36) := by
  refine z_met (by decide) rfl (Nat.le_of_ble_eq_true rfl) (fun X hc he => ?_)
  show zJW X 0 [(0, zR 39), (1, zR 42)] [] M
  refine z_iconst (pc := 0) hc 0 dL_copy_0 ?_
  refine z_ist (pc := 1) (lv' := [(2, zI 0), (0, zR 39), (1, zR 42)]) hc rfl (Nat.le_of_ble_eq_true rfl) dL_copy_1 ?_
  refine z_for 36 (fun i2 => [(2, zI (i2 : Int)), (0, zR 39), (1, zR 42)]) (fun i2 => (cpM M 39 42 (i2 : Int))) (by rfl) (by exact cpM_0) ?_ (fun i2 hi2 ih2 => ?_)
  · show zJW X 2 [(2, zI (36 : Int)), (0, zR 39), (1, zR 42)] [] (cpM M 39 42 (36 : Int))
    refine z_ild (pc := 2) hc 0 rfl dL_copy_2 ?_
    refine z_ald (pc := 3) hc 1 rfl dL_copy_3 ?_
    refine z_alen (pc := 4) (n := 36) hc (by decide) rfl rfl (by decide) dL_copy_4 ?_
    refine z_cge (pc := 5) (tgt := 20) hc (by omega) (by decide) dL_copy_5 (fun h5 => ?_) (fun h5 => ?_)
    · show zJW X 20 [(2, zI (36 : Int)), (0, zR 39), (1, zR 42)] [] (cpM M 39 42 (36 : Int))
      exact z_vret (pc := 20) hc he rfl dL_copy_20 (⟨rfl, rfl⟩)
    · exfalso; omega
  · show zJW X 2 [(2, zI (i2 : Int)), (0, zR 39), (1, zR 42)] [] (cpM M 39 42 (i2 : Int))
    refine z_ild (pc := 2) hc 0 rfl dL_copy_2 ?_
    refine z_ald (pc := 3) hc 1 rfl dL_copy_3 ?_
    refine z_alen (pc := 4) (n := 36) hc (by decide) rfl rfl (by decide) dL_copy_4 ?_
    refine z_cge (pc := 5) (tgt := 20) hc (by omega) (by decide) dL_copy_5 (fun h5 => ?_) (fun h5 => ?_)
    · exfalso; omega
    · show zJW X 8 [(2, zI (i2 : Int)), (0, zR 39), (1, zR 42)] [] (cpM M 39 42 (i2 : Int))
      refine z_ald (pc := 8) hc 2 rfl dL_copy_8 ?_
      refine z_ild (pc := 9) hc 0 rfl dL_copy_9 ?_
      refine z_ald (pc := 10) hc 1 rfl dL_copy_10 ?_
      refine z_ild (pc := 11) hc 0 rfl dL_copy_11 ?_
      refine z_iald (pc := 12) hc (by decide) rfl rfl (by decide) (by omega) dL_copy_12 ?_
      refine z_iast (pc := 13) hc (by decide) rfl rfl (by decide) (by omega) dL_copy_13 ?_
      refine z_iinc (pc := 14) (lv' := [(2, zI ((i2 : Int) + 1)), (0, zR 39), (1, zR 42)]) hc 0 rfl rfl (Nat.le_of_ble_eq_true rfl) dL_copy_14 ?_
      refine z_goto (pc := 17) (tgt := 2) hc (by decide) dL_copy_17 ?_
      exact zJW_eq (by rfl) rfl (by exact cpM_s (by decide) i2) ih2

set_option maxRecDepth 100000 in
set_option maxHeartbeats 4000000 in
theorem ct_L_copy_41_38 (M : Mem) : zCt yL_copy (KL_copy 41 38) [zR 41, zR 38] M (fun zv zM => zv = none ∧ zM = cpM M 41 38 14) := by
  refine z_met (by decide) rfl (Nat.le_of_ble_eq_true rfl) (fun X hc he => ?_)
  show zJW X 0 [(0, zR 41), (1, zR 38)] [] M
  refine z_iconst (pc := 0) hc 0 dL_copy_0 ?_
  refine z_ist (pc := 1) (lv' := [(2, zI 0), (0, zR 41), (1, zR 38)]) hc rfl (Nat.le_of_ble_eq_true rfl) dL_copy_1 ?_
  refine z_for 14 (fun i2 => [(2, zI (i2 : Int)), (0, zR 41), (1, zR 38)]) (fun i2 => (cpM M 41 38 (i2 : Int))) (by rfl) (by exact cpM_0) ?_ (fun i2 hi2 ih2 => ?_)
  · show zJW X 2 [(2, zI (14 : Int)), (0, zR 41), (1, zR 38)] [] (cpM M 41 38 (14 : Int))
    refine z_ild (pc := 2) hc 0 rfl dL_copy_2 ?_
    refine z_ald (pc := 3) hc 1 rfl dL_copy_3 ?_
    refine z_alen (pc := 4) (n := 14) hc (by decide) rfl rfl (by decide) dL_copy_4 ?_
    refine z_cge (pc := 5) (tgt := 20) hc (by omega) (by decide) dL_copy_5 (fun h5 => ?_) (fun h5 => ?_)
    · show zJW X 20 [(2, zI (14 : Int)), (0, zR 41), (1, zR 38)] [] (cpM M 41 38 (14 : Int))
      exact z_vret (pc := 20) hc he rfl dL_copy_20 (⟨rfl, rfl⟩)
    · exfalso; omega
  · show zJW X 2 [(2, zI (i2 : Int)), (0, zR 41), (1, zR 38)] [] (cpM M 41 38 (i2 : Int))
    refine z_ild (pc := 2) hc 0 rfl dL_copy_2 ?_
    refine z_ald (pc := 3) hc 1 rfl dL_copy_3 ?_
    refine z_alen (pc := 4) (n := 14) hc (by decide) rfl rfl (by decide) dL_copy_4 ?_
    refine z_cge (pc := 5) (tgt := 20) hc (by omega) (by decide) dL_copy_5 (fun h5 => ?_) (fun h5 => ?_)
    · exfalso; omega
    · show zJW X 8 [(2, zI (i2 : Int)), (0, zR 41), (1, zR 38)] [] (cpM M 41 38 (i2 : Int))
      refine z_ald (pc := 8) hc 2 rfl dL_copy_8 ?_
      refine z_ild (pc := 9) hc 0 rfl dL_copy_9 ?_
      refine z_ald (pc := 10) hc 1 rfl dL_copy_10 ?_
      refine z_ild (pc := 11) hc 0 rfl dL_copy_11 ?_
      refine z_iald (pc := 12) hc (by decide) rfl rfl (by decide) (by omega) dL_copy_12 ?_
      refine z_iast (pc := 13) hc (by decide) rfl rfl (by decide) (by omega) dL_copy_13 ?_
      refine z_iinc (pc := 14) (lv' := [(2, zI ((i2 : Int) + 1)), (0, zR 41), (1, zR 38)]) hc 0 rfl rfl (Nat.le_of_ble_eq_true rfl) dL_copy_14 ?_
      refine z_goto (pc := 17) (tgt := 2) hc (by decide) dL_copy_17 ?_
      exact zJW_eq (by rfl) rfl (by exact cpM_s (by decide) i2) ih2

set_option maxRecDepth 100000 in
set_option maxHeartbeats 4000000 in
theorem ct_L_copy_42_39 (M : Mem) : zCt yL_copy (KL_copy 42 39) [zR 42, zR 39] M (fun zv zM => zv = none ∧ zM = cpM M 42 39 36) := by
  refine z_met (by decide) rfl (Nat.le_of_ble_eq_true rfl) (fun X hc he => ?_)
  show zJW X 0 [(0, zR 42), (1, zR 39)] [] M
  refine z_iconst (pc := 0) hc 0 dL_copy_0 ?_
  refine z_ist (pc := 1) (lv' := [(2, zI 0), (0, zR 42), (1, zR 39)]) hc rfl (Nat.le_of_ble_eq_true rfl) dL_copy_1 ?_
  refine z_for 36 (fun i2 => [(2, zI (i2 : Int)), (0, zR 42), (1, zR 39)]) (fun i2 => (cpM M 42 39 (i2 : Int))) (by rfl) (by exact cpM_0) ?_ (fun i2 hi2 ih2 => ?_)
  · show zJW X 2 [(2, zI (36 : Int)), (0, zR 42), (1, zR 39)] [] (cpM M 42 39 (36 : Int))
    refine z_ild (pc := 2) hc 0 rfl dL_copy_2 ?_
    refine z_ald (pc := 3) hc 1 rfl dL_copy_3 ?_
    refine z_alen (pc := 4) (n := 36) hc (by decide) rfl rfl (by decide) dL_copy_4 ?_
    refine z_cge (pc := 5) (tgt := 20) hc (by omega) (by decide) dL_copy_5 (fun h5 => ?_) (fun h5 => ?_)
    · show zJW X 20 [(2, zI (36 : Int)), (0, zR 42), (1, zR 39)] [] (cpM M 42 39 (36 : Int))
      exact z_vret (pc := 20) hc he rfl dL_copy_20 (⟨rfl, rfl⟩)
    · exfalso; omega
  · show zJW X 2 [(2, zI (i2 : Int)), (0, zR 42), (1, zR 39)] [] (cpM M 42 39 (i2 : Int))
    refine z_ild (pc := 2) hc 0 rfl dL_copy_2 ?_
    refine z_ald (pc := 3) hc 1 rfl dL_copy_3 ?_
    refine z_alen (pc := 4) (n := 36) hc (by decide) rfl rfl (by decide) dL_copy_4 ?_
    refine z_cge (pc := 5) (tgt := 20) hc (by omega) (by decide) dL_copy_5 (fun h5 => ?_) (fun h5 => ?_)
    · exfalso; omega
    · show zJW X 8 [(2, zI (i2 : Int)), (0, zR 42), (1, zR 39)] [] (cpM M 42 39 (i2 : Int))
      refine z_ald (pc := 8) hc 2 rfl dL_copy_8 ?_
      refine z_ild (pc := 9) hc 0 rfl dL_copy_9 ?_
      refine z_ald (pc := 10) hc 1 rfl dL_copy_10 ?_
      refine z_ild (pc := 11) hc 0 rfl dL_copy_11 ?_
      refine z_iald (pc := 12) hc (by decide) rfl rfl (by decide) (by omega) dL_copy_12 ?_
      refine z_iast (pc := 13) hc (by decide) rfl rfl (by decide) (by omega) dL_copy_13 ?_
      refine z_iinc (pc := 14) (lv' := [(2, zI ((i2 : Int) + 1)), (0, zR 42), (1, zR 39)]) hc 0 rfl rfl (Nat.le_of_ble_eq_true rfl) dL_copy_14 ?_
      refine z_goto (pc := 17) (tgt := 2) hc (by decide) dL_copy_17 ?_
      exact zJW_eq (by rfl) rfl (by exact cpM_s (by decide) i2) ih2

set_option maxRecDepth 100000 in
set_option maxHeartbeats 4000000 in
theorem ct_L_frame (M : Mem) (hd : 1 ≤ M 40 0 ∧ M 40 0 ≤ 12 ∧ 1 ≤ M 40 1 ∧ M 40 1 ≤ 12) (h2 : M 40 2 = 0 ∨ M 40 2 = 1) : zCt yL_frame (KL_frame 38 40) [zR 38, zR 40] M (fun zv zM => zv = none ∧ zM = frM M 38 40 14) := by
  refine z_met (by decide) rfl (Nat.le_of_ble_eq_true rfl) (fun X hc he => ?_)
  show zJW X 0 [(0, zR 38), (1, zR 40)] [] M
  refine z_ald (pc := 0) hc 1 rfl dL_frame_0 ?_
  refine z_iconst (pc := 1) hc 2 dL_frame_1 ?_
  refine z_iald (pc := 2) hc (by decide) rfl rfl (by decide) (by omega) dL_frame_2 ?_
  refine z_iconst (pc := 3) hc 1 dL_frame_3 ?_
  have hJ20 : zJW X 20 [(0, zR 38), (1, zR 40)] [zI (alF (M 40 1) (M 40 2))] M := by
    refine z_ist (pc := 20) (lv' := [(2, zI (alF (M 40 1) (M 40 2))), (0, zR 38), (1, zR 40)]) hc rfl (Nat.le_of_ble_eq_true rfl) dL_frame_20 ?_
    refine z_iconst (pc := 21) hc 0 dL_frame_21 ?_
    refine z_ist (pc := 22) (lv' := [(3, zI 0), (2, zI (alF (M 40 1) (M 40 2))), (0, zR 38), (1, zR 40)]) hc rfl (Nat.le_of_ble_eq_true rfl) dL_frame_22 ?_
    refine z_for 14 (fun i23 => [(3, zI (i23 : Int)), (2, zI (alF (M 40 1) (M 40 2))), (0, zR 38), (1, zR 40)]) (fun i23 => (frM M 38 40 (i23 : Int))) (by rfl) (by exact frM_0) ?_ (fun i23 hi23 ih23 => ?_)
    · show zJW X 23 [(3, zI (14 : Int)), (2, zI (alF (M 40 1) (M 40 2))), (0, zR 38), (1, zR 40)] [] (frM M 38 40 (14 : Int))
      refine z_ild (pc := 23) hc 0 rfl dL_frame_23 ?_
      refine z_bipush (pc := 24) hc 14 (by decide) dL_frame_24 ?_
      refine z_cge (pc := 26) (tgt := 99) hc (by omega) (by decide) dL_frame_26 (fun h26 => ?_) (fun h26 => ?_)
      · show zJW X 99 [(3, zI (14 : Int)), (2, zI (alF (M 40 1) (M 40 2))), (0, zR 38), (1, zR 40)] [] (frM M 38 40 (14 : Int))
        exact z_vret (pc := 99) hc he rfl dL_frame_99 (⟨rfl, rfl⟩)
      · exfalso; omega
    · show zJW X 23 [(3, zI (i23 : Int)), (2, zI (alF (M 40 1) (M 40 2))), (0, zR 38), (1, zR 40)] [] (frM M 38 40 (i23 : Int))
      have e0 : frM M 38 40 (i23 : Int) 40 = M 40 := frM_off (by decide)
      have e1 : frM M 38 40 (i23 : Int) 38 (i23 : Int) = M 38 (i23 : Int) := frM_at (Int.le_refl _)
      have b0 := congrFun e0 0
      have b1 := congrFun e0 1
      refine z_ild (pc := 23) hc 0 rfl dL_frame_23 ?_
      refine z_bipush (pc := 24) hc 14 (by decide) dL_frame_24 ?_
      refine z_cge (pc := 26) (tgt := 99) hc (by omega) (by decide) dL_frame_26 (fun h26 => ?_) (fun h26 => ?_)
      · exfalso; omega
      · show zJW X 29 [(3, zI (i23 : Int)), (2, zI (alF (M 40 1) (M 40 2))), (0, zR 38), (1, zR 40)] [] (frM M 38 40 (i23 : Int))
        refine z_ild (pc := 29) hc 0 rfl dL_frame_29 ?_
        refine z_ile (pc := 30) (tgt := 44) hc (by omega) (by decide) dL_frame_30 (fun h30 => ?_) (fun h30 => ?_)
        · show zJW X 44 [(3, zI (i23 : Int)), (2, zI (alF (M 40 1) (M 40 2))), (0, zR 38), (1, zR 40)] [] (frM M 38 40 (i23 : Int))
          refine z_iconst (pc := 44) hc 0 dL_frame_44 ?_
          refine z_isw (pc := 45) (lv' := [(4, zI 0), (3, zI (i23 : Int)), (2, zI (alF (M 40 1) (M 40 2))), (0, zR 38), (1, zR 40)]) hc rfl (Nat.le_of_ble_eq_true rfl) dL_frame_45 ?_
          refine z_iconst (pc := 47) hc 1 dL_frame_47 ?_
          refine z_iconst (pc := 48) hc 1 dL_frame_48 ?_
          refine z_ald (pc := 49) hc 4 rfl dL_frame_49 ?_
          refine z_iconst (pc := 50) hc 1 dL_frame_50 ?_
          refine z_iald (pc := 51) hc (by decide) rfl rfl (by decide) (by omega) dL_frame_51 ?_
          refine z_iconst (pc := 52) hc 1 dL_frame_52 ?_
          refine z_iadd (pc := 53) hc dL_frame_53 ?_
          refine z_ishl (pc := 54) hc dL_frame_54 ?_
          refine z_ior (pc := 55) hc dL_frame_55 ?_
          refine z_isw (pc := 56) (lv' := [(5, zI (zor 1 (zsl 1 (((frM M 38 40 (i23 : Int)) 40 1) + 1)))), (4, zI 0), (3, zI (i23 : Int)), (2, zI (alF (M 40 1) (M 40 2))), (0, zR 38), (1, zR 40)]) hc rfl (Nat.le_of_ble_eq_true rfl) dL_frame_56 ?_
          refine z_ald (pc := 58) hc 4 rfl dL_frame_58 ?_
          refine z_ild (pc := 59) hc 2 rfl dL_frame_59 ?_
          refine z_ilw (pc := 60) hc 1 rfl dL_frame_60 ?_
          refine z_ine (pc := 62) (tgt := 69) hc (by omega) (by decide) dL_frame_62 (fun h62 => ?_) (fun h62 => ?_)
          · exfalso; omega
          · show zJW X 65 [(5, zI (zor 1 (zsl 1 (((frM M 38 40 (i23 : Int)) 40 1) + 1)))), (4, zI 0), (3, zI (i23 : Int)), (2, zI (alF (M 40 1) (M 40 2))), (0, zR 38), (1, zR 40)] [zI (i23 : Int), zR 38] (frM M 38 40 (i23 : Int))
            refine z_ild (pc := 65) hc 3 rfl dL_frame_65 ?_
            refine z_goto (pc := 66) (tgt := 92) hc (by decide) dL_frame_66 ?_
            refine z_iast (pc := 92) hc (by decide) rfl rfl (by decide) (by omega) dL_frame_92 ?_
            refine z_iinc (pc := 93) (lv' := [(3, zI ((i23 : Int) + 1)), (5, zI (zor 1 (zsl 1 (((frM M 38 40 (i23 : Int)) 40 1) + 1)))), (4, zI 0), (2, zI (alF (M 40 1) (M 40 2))), (0, zR 38), (1, zR 40)]) hc 2 rfl rfl (Nat.le_of_ble_eq_true rfl) dL_frame_93 ?_
            refine z_goto (pc := 96) (tgt := 23) hc (by decide) dL_frame_96 ?_
            refine zJW_sub (lv' := [(3, zI ((i23 : Int) + 1)), (2, zI (alF (M 40 1) (M 40 2))), (0, zR 38), (1, zR 40)]) [0, 3, 4, 5] rfl ?_
            exact zJW_eq (by rfl) rfl (by refine frM_s i23 ?_; (try rw [e1]); (try rw [b1]); unfold frV; first | (rw [if_pos (by omega)]; rfl) | (rw [if_neg (by omega)])) ih23
        · show zJW X 33 [(3, zI (i23 : Int)), (2, zI (alF (M 40 1) (M 40 2))), (0, zR 38), (1, zR 40)] [] (frM M 38 40 (i23 : Int))
          refine z_ild (pc := 33) hc 0 rfl dL_frame_33 ?_
          refine z_ald (pc := 34) hc 3 rfl dL_frame_34 ?_
          refine z_iconst (pc := 35) hc 0 dL_frame_35 ?_
          refine z_iald (pc := 36) hc (by decide) rfl rfl (by decide) (by omega) dL_frame_36 ?_
          refine z_cgt (pc := 37) (tgt := 44) hc (by omega) (by decide) dL_frame_37 (fun h37 => ?_) (fun h37 => ?_)
          · show zJW X 44 [(3, zI (i23 : Int)), (2, zI (alF (M 40 1) (M 40 2))), (0, zR 38), (1, zR 40)] [] (frM M 38 40 (i23 : Int))
            refine z_iconst (pc := 44) hc 0 dL_frame_44 ?_
            refine z_isw (pc := 45) (lv' := [(4, zI 0), (3, zI (i23 : Int)), (2, zI (alF (M 40 1) (M 40 2))), (0, zR 38), (1, zR 40)]) hc rfl (Nat.le_of_ble_eq_true rfl) dL_frame_45 ?_
            refine z_iconst (pc := 47) hc 1 dL_frame_47 ?_
            refine z_iconst (pc := 48) hc 1 dL_frame_48 ?_
            refine z_ald (pc := 49) hc 4 rfl dL_frame_49 ?_
            refine z_iconst (pc := 50) hc 1 dL_frame_50 ?_
            refine z_iald (pc := 51) hc (by decide) rfl rfl (by decide) (by omega) dL_frame_51 ?_
            refine z_iconst (pc := 52) hc 1 dL_frame_52 ?_
            refine z_iadd (pc := 53) hc dL_frame_53 ?_
            refine z_ishl (pc := 54) hc dL_frame_54 ?_
            refine z_ior (pc := 55) hc dL_frame_55 ?_
            refine z_isw (pc := 56) (lv' := [(5, zI (zor 1 (zsl 1 (((frM M 38 40 (i23 : Int)) 40 1) + 1)))), (4, zI 0), (3, zI (i23 : Int)), (2, zI (alF (M 40 1) (M 40 2))), (0, zR 38), (1, zR 40)]) hc rfl (Nat.le_of_ble_eq_true rfl) dL_frame_56 ?_
            refine z_ald (pc := 58) hc 4 rfl dL_frame_58 ?_
            refine z_ild (pc := 59) hc 2 rfl dL_frame_59 ?_
            refine z_ilw (pc := 60) hc 1 rfl dL_frame_60 ?_
            refine z_ine (pc := 62) (tgt := 69) hc (by omega) (by decide) dL_frame_62 (fun h62 => ?_) (fun h62 => ?_)
            · exfalso; omega
            · show zJW X 65 [(5, zI (zor 1 (zsl 1 (((frM M 38 40 (i23 : Int)) 40 1) + 1)))), (4, zI 0), (3, zI (i23 : Int)), (2, zI (alF (M 40 1) (M 40 2))), (0, zR 38), (1, zR 40)] [zI (i23 : Int), zR 38] (frM M 38 40 (i23 : Int))
              refine z_ild (pc := 65) hc 3 rfl dL_frame_65 ?_
              refine z_goto (pc := 66) (tgt := 92) hc (by decide) dL_frame_66 ?_
              refine z_iast (pc := 92) hc (by decide) rfl rfl (by decide) (by omega) dL_frame_92 ?_
              refine z_iinc (pc := 93) (lv' := [(3, zI ((i23 : Int) + 1)), (5, zI (zor 1 (zsl 1 (((frM M 38 40 (i23 : Int)) 40 1) + 1)))), (4, zI 0), (2, zI (alF (M 40 1) (M 40 2))), (0, zR 38), (1, zR 40)]) hc 2 rfl rfl (Nat.le_of_ble_eq_true rfl) dL_frame_93 ?_
              refine z_goto (pc := 96) (tgt := 23) hc (by decide) dL_frame_96 ?_
              refine zJW_sub (lv' := [(3, zI ((i23 : Int) + 1)), (2, zI (alF (M 40 1) (M 40 2))), (0, zR 38), (1, zR 40)]) [0, 3, 4, 5] rfl ?_
              exact zJW_eq (by rfl) rfl (by refine frM_s i23 ?_; (try rw [e1]); (try rw [b1]); unfold frV; first | (rw [if_pos (by omega)]; rfl) | (rw [if_neg (by omega)])) ih23
          · show zJW X 40 [(3, zI (i23 : Int)), (2, zI (alF (M 40 1) (M 40 2))), (0, zR 38), (1, zR 40)] [] (frM M 38 40 (i23 : Int))
            refine z_iconst (pc := 40) hc 1 dL_frame_40 ?_
            refine z_goto (pc := 41) (tgt := 45) hc (by decide) dL_frame_41 ?_
            refine z_isw (pc := 45) (lv' := [(4, zI 1), (3, zI (i23 : Int)), (2, zI (alF (M 40 1) (M 40 2))), (0, zR 38), (1, zR 40)]) hc rfl (Nat.le_of_ble_eq_true rfl) dL_frame_45 ?_
            refine z_iconst (pc := 47) hc 1 dL_frame_47 ?_
            refine z_iconst (pc := 48) hc 1 dL_frame_48 ?_
            refine z_ald (pc := 49) hc 4 rfl dL_frame_49 ?_
            refine z_iconst (pc := 50) hc 1 dL_frame_50 ?_
            refine z_iald (pc := 51) hc (by decide) rfl rfl (by decide) (by omega) dL_frame_51 ?_
            refine z_iconst (pc := 52) hc 1 dL_frame_52 ?_
            refine z_iadd (pc := 53) hc dL_frame_53 ?_
            refine z_ishl (pc := 54) hc dL_frame_54 ?_
            refine z_ior (pc := 55) hc dL_frame_55 ?_
            refine z_isw (pc := 56) (lv' := [(5, zI (zor 1 (zsl 1 (((frM M 38 40 (i23 : Int)) 40 1) + 1)))), (4, zI 1), (3, zI (i23 : Int)), (2, zI (alF (M 40 1) (M 40 2))), (0, zR 38), (1, zR 40)]) hc rfl (Nat.le_of_ble_eq_true rfl) dL_frame_56 ?_
            refine z_ald (pc := 58) hc 4 rfl dL_frame_58 ?_
            refine z_ild (pc := 59) hc 2 rfl dL_frame_59 ?_
            refine z_ilw (pc := 60) hc 1 rfl dL_frame_60 ?_
            refine z_ine (pc := 62) (tgt := 69) hc (by omega) (by decide) dL_frame_62 (fun h62 => ?_) (fun h62 => ?_)
            · show zJW X 69 [(5, zI (zor 1 (zsl 1 (((frM M 38 40 (i23 : Int)) 40 1) + 1)))), (4, zI 1), (3, zI (i23 : Int)), (2, zI (alF (M 40 1) (M 40 2))), (0, zR 38), (1, zR 40)] [zI (i23 : Int), zR 38] (frM M 38 40 (i23 : Int))
              refine z_ald (pc := 69) hc 4 rfl dL_frame_69 ?_
              refine z_ild (pc := 70) hc 2 rfl dL_frame_70 ?_
              refine z_iald (pc := 71) hc (by decide) rfl rfl (by decide) (by omega) dL_frame_71 ?_
              refine z_ilw (pc := 72) hc 0 rfl dL_frame_72 ?_
              refine z_iconst (pc := 74) hc (-1) dL_frame_74 ?_
              refine z_ixor (pc := 75) hc dL_frame_75 ?_
              refine z_iand (pc := 76) hc dL_frame_76 ?_
              refine z_iconst (pc := 77) hc 1 dL_frame_77 ?_
              refine z_ald (pc := 78) hc 5 rfl dL_frame_78 ?_
              refine z_iconst (pc := 79) hc 1 dL_frame_79 ?_
              refine z_iald (pc := 80) hc (by decide) rfl rfl (by decide) (by omega) dL_frame_80 ?_
              refine z_iconst (pc := 81) hc 2 dL_frame_81 ?_
              refine z_iadd (pc := 82) hc dL_frame_82 ?_
              refine z_ishl (pc := 83) hc dL_frame_83 ?_
              refine z_iconst (pc := 84) hc 1 dL_frame_84 ?_
              refine z_isub (pc := 85) hc dL_frame_85 ?_
              refine z_iand (pc := 86) hc dL_frame_86 ?_
              refine z_ild (pc := 87) hc 3 rfl dL_frame_87 ?_
              refine z_ilw (pc := 88) hc 0 rfl dL_frame_88 ?_
              refine z_iand (pc := 90) hc dL_frame_90 ?_
              refine z_ior (pc := 91) hc dL_frame_91 ?_
              refine z_iast (pc := 92) hc (by decide) rfl rfl (by decide) (by omega) dL_frame_92 ?_
              refine z_iinc (pc := 93) (lv' := [(3, zI ((i23 : Int) + 1)), (5, zI (zor 1 (zsl 1 (((frM M 38 40 (i23 : Int)) 40 1) + 1)))), (4, zI 1), (2, zI (alF (M 40 1) (M 40 2))), (0, zR 38), (1, zR 40)]) hc 2 rfl rfl (Nat.le_of_ble_eq_true rfl) dL_frame_93 ?_
              refine z_goto (pc := 96) (tgt := 23) hc (by decide) dL_frame_96 ?_
              refine zJW_sub (lv' := [(3, zI ((i23 : Int) + 1)), (2, zI (alF (M 40 1) (M 40 2))), (0, zR 38), (1, zR 40)]) [0, 3, 4, 5] rfl ?_
              exact zJW_eq (by rfl) rfl (by refine frM_s i23 ?_; (try rw [e1]); (try rw [b1]); unfold frV; first | (rw [if_pos (by omega)]; rfl) | (rw [if_neg (by omega)])) ih23
            · exfalso; omega
  refine z_cne (pc := 4) (tgt := 19) hc (by omega) (by decide) dL_frame_4 (fun h4 => ?_) (fun h4 => ?_)
  · show zJW X 19 [(0, zR 38), (1, zR 40)] [] M
    refine z_iconst (pc := 19) hc 0 dL_frame_19 ?_
    exact zJW_eq (by rfl) (by unfold alF; first | (rw [if_pos h4]; done) | (rw [if_neg h4]; done)) (by rfl) hJ20
  · show zJW X 7 [(0, zR 38), (1, zR 40)] [] M
    refine z_iconst (pc := 7) hc 1 dL_frame_7 ?_
    refine z_ald (pc := 8) hc 1 rfl dL_frame_8 ?_
    refine z_iconst (pc := 9) hc 1 dL_frame_9 ?_
    refine z_iald (pc := 10) hc (by decide) rfl rfl (by decide) (by omega) dL_frame_10 ?_
    refine z_iconst (pc := 11) hc 2 dL_frame_11 ?_
    refine z_iadd (pc := 12) hc dL_frame_12 ?_
    refine z_ishl (pc := 13) hc dL_frame_13 ?_
    refine z_iconst (pc := 14) hc 1 dL_frame_14 ?_
    refine z_isub (pc := 15) hc dL_frame_15 ?_
    refine z_goto (pc := 16) (tgt := 20) hc (by decide) dL_frame_16 ?_
    exact zJW_eq (by rfl) (by unfold alF; first | (rw [if_pos h4]; done) | (rw [if_neg h4]; done)) (by rfl) hJ20

