set_option maxRecDepth 100000 in
set_option maxHeartbeats 4000000 in
theorem ct_X3_has (M : Mem) (k : Nat) (hk : k < 9) (hS : zSk M k) (r c : Int) (hb_r : -2147483648 ≤ r ∧ r < 2147483648) (hb_c : -2147483648 ≤ c ∧ c < 2147483648)  : zCt yX3_has KX3_has [zR k, zI r, zI c] M (fun zv zM => zv = some (zbz (inT (tsX M k) r c)) ∧ zM = M) := by
  obtain ⟨hs1, hs2, hs3, hs4, hs5, hs6⟩ := id hS
  refine z_met (by decide) rfl (Nat.le_of_ble_eq_true rfl) (fun X hc he => ?_)
  show zJW X 0 [(0, zR k), (1, zI r), (2, zI c)] [] M
  refine z_ild (pc := 0) hc 1 rfl dX3_has_0 ?_
  refine z_ald (pc := 1) hc 0 rfl dX3_has_1 ?_
  refine fg_X3_9 (pc := 2) hc rfl (decide_eq_true (by omega)) (by omega) dX3_has_2 ?_
  refine kc_X3_36 (pc := 5) hc rfl (zfit0 (by decide) rfl rfl) (Nat.le_of_ble_eq_true rfl) (ct_X5_isLineOf M r (M k 0) (by omega) (by omega)) dX3_has_5 ?_
  refine z_beq (pc := 8) (tgt := 26) hc (by decide) dX3_has_8 (fun h8 => ?_) (fun h8 => ?_)
  · show zJW X 26 [(0, zR k), (1, zI r), (2, zI c)] [] M
    refine z_iconst (pc := 26) hc 0 dX3_has_26 ?_
    exact z_bret (pc := 27) (a := false) hc he rfl dX3_has_27 (by refine ⟨?_, rfl⟩; rw [inT_X]; congr 2; (try simp only [decide_eq_true_eq, decide_eq_false_iff_not] at h8); (first | exact (decide_eq_true (by omega)).symm | exact (decide_eq_false (by omega)).symm))
  · show zJW X 11 [(0, zR k), (1, zI r), (2, zI c)] [] M
    refine z_ild (pc := 11) hc 2 rfl dX3_has_11 ?_
    refine z_ald (pc := 12) hc 0 rfl dX3_has_12 ?_
    refine fg_X3_15 (pc := 13) hc rfl (decide_eq_true (by omega)) (by omega) dX3_has_13 ?_
    refine kc_X3_36 (pc := 16) hc rfl (zfit0 (by decide) rfl rfl) (Nat.le_of_ble_eq_true rfl) (ct_X5_isLineOf M c (M k 1) (by omega) (by omega)) dX3_has_16 ?_
    refine z_beq (pc := 19) (tgt := 26) hc (by decide) dX3_has_19 (fun h19 => ?_) (fun h19 => ?_)
    · show zJW X 26 [(0, zR k), (1, zI r), (2, zI c)] [] M
      refine z_iconst (pc := 26) hc 0 dX3_has_26 ?_
      exact z_bret (pc := 27) (a := false) hc he rfl dX3_has_27 (by refine ⟨?_, rfl⟩; rw [inT_X]; congr 2; (try simp only [decide_eq_true_eq, decide_eq_false_iff_not] at h8 h19); (first | exact (decide_eq_true (by omega)).symm | exact (decide_eq_false (by omega)).symm))
    · show zJW X 22 [(0, zR k), (1, zI r), (2, zI c)] [] M
      refine z_iconst (pc := 22) hc 1 dX3_has_22 ?_
      refine z_goto (pc := 23) (tgt := 27) hc (by decide) dX3_has_23 ?_
      exact z_bret (pc := 27) (a := true) hc he rfl dX3_has_27 (by refine ⟨?_, rfl⟩; rw [inT_X]; congr 2; (try simp only [decide_eq_true_eq, decide_eq_false_iff_not] at h8 h19); (first | exact (decide_eq_true (by omega)).symm | exact (decide_eq_false (by omega)).symm))

set_option maxRecDepth 100000 in
set_option maxHeartbeats 4000000 in
theorem ct_X3_isLandAt (M : Mem) (k : Nat) (hk : k < 9) (hS : zSk M k) (r c : Int) (hb_r : -2147483648 ≤ r ∧ r < 2147483648) (hb_c : -2147483648 ≤ c ∧ c < 2147483648)  : zCt yX3_isLandAt KX3_isLandAt [zR k, zI r, zI c] M (fun zv zM => zv = some (zbz (laT (tsX M k) r c)) ∧ zM = M) := by
  obtain ⟨hs1, hs2, hs3, hs4, hs5, hs6, hs7⟩ := id hS
  refine z_met (by decide) rfl (Nat.le_of_ble_eq_true rfl) (fun X hc he => ?_)
  show zJW X 0 [(0, zR k), (1, zI r), (2, zI c)] [] M
  refine z_ald (pc := 0) hc 0 rfl dX3_isLandAt_0 ?_
  refine z_ild (pc := 1) hc 1 rfl dX3_isLandAt_1 ?_
  refine z_ild (pc := 2) hc 2 rfl dX3_isLandAt_2 ?_
  refine kc_X3_40 (pc := 3) hc rfl (zfitX (by decide) rfl rfl) (decide_eq_true (by omega)) (by omega) (Nat.le_of_ble_eq_true rfl) (ct_X3_has M k (by omega) (by first | assumption ) r c (by omega) (by omega)) dX3_isLandAt_3 ?_
  refine z_beq (pc := 6) (tgt := 23) hc (by decide) dX3_isLandAt_6 (fun h6 => ?_) (fun h6 => ?_)
  · show zJW X 23 [(0, zR k), (1, zI r), (2, zI c)] [] M
    rw [inT_X] at h6
    have h6 := of_decide_eq_false h6
    refine z_ald (pc := 23) hc 0 rfl dX3_isLandAt_23 ?_
    refine fg_X3_18 (pc := 24) hc rfl (decide_eq_true (by omega)) (by omega) dX3_isLandAt_24 ?_
    refine zJW_eq (st' := [zI (zbz (decide ((M k 2) = 1)))]) rfl (congrArg (fun q => [zI q]) (zbz_of (by first | exact hs5 | exact hs6 _ (by omega) (by omega)))) rfl ?_
    exact z_bret (pc := 27) (a := (decide ((M k 2) = 1))) hc he rfl dX3_isLandAt_27 (by refine ⟨?_, rfl⟩; rw [laT_X]; congr 2; (first | rw [if_pos h6] | rw [if_neg h6]))
  · show zJW X 9 [(0, zR k), (1, zI r), (2, zI c)] [] M
    rw [inT_X] at h6
    have h6 := of_decide_eq_true h6
    refine z_ald (pc := 9) hc 0 rfl dX3_isLandAt_9 ?_
    refine fg_X3_22 (pc := 10) hc rfl (decide_eq_true (by omega)) (by omega) dX3_isLandAt_10 ?_
    refine z_ild (pc := 13) hc 1 rfl dX3_isLandAt_13 ?_
    refine z_bipush (pc := 14) hc 12 (by decide) dX3_isLandAt_14 ?_
    refine z_imul (pc := 16) hc dX3_isLandAt_16 ?_
    refine z_ild (pc := 17) hc 2 rfl dX3_isLandAt_17 ?_
    refine z_iadd (pc := 18) hc dX3_isLandAt_18 ?_
    refine z_zald (pc := 19) hc (decide_eq_true (by omega)) (ztm_la (by omega)) (zar_la (by omega)) (by decide) (by omega) dX3_isLandAt_19 ?_
    refine z_goto (pc := 20) (tgt := 27) hc (by decide) dX3_isLandAt_20 ?_
    refine zJW_eq (st' := [zI (zbz (decide ((M (k + 9) ((r * 12) + c)) = 1)))]) rfl (congrArg (fun q => [zI q]) (zbz_of (by first | exact hs5 | exact hs6 _ (by omega) (by omega)))) rfl ?_
    exact z_bret (pc := 27) (a := (decide ((M (k + 9) ((r * 12) + c)) = 1))) hc he rfl dX3_isLandAt_27 (by refine ⟨?_, rfl⟩; rw [laT_X]; congr 2; (first | rw [if_pos h6] | rw [if_neg h6]))

set_option maxRecDepth 100000 in
set_option maxHeartbeats 4000000 in
theorem ct_X3_pinAt (M : Mem) (k : Nat) (hk : k < 9) (hS : zSk M k) (r c : Int) (hb_r : -2147483648 ≤ r ∧ r < 2147483648) (hb_c : -2147483648 ≤ c ∧ c < 2147483648)  : zCt yX3_pinAt KX3_pinAt [zR k, zI r, zI c] M (fun zv zM => zv = some (piT (tsX M k) r c) ∧ zM = M) := by
  obtain ⟨hs1, hs2, hs3, hs4, hs5, hs6, hs7⟩ := id hS
  refine z_met (by decide) rfl (Nat.le_of_ble_eq_true rfl) (fun X hc he => ?_)
  show zJW X 0 [(0, zR k), (1, zI r), (2, zI c)] [] M
  refine z_ald (pc := 0) hc 0 rfl dX3_pinAt_0 ?_
  refine z_ild (pc := 1) hc 1 rfl dX3_pinAt_1 ?_
  refine z_ild (pc := 2) hc 2 rfl dX3_pinAt_2 ?_
  refine kc_X3_40 (pc := 3) hc rfl (zfitX (by decide) rfl rfl) (decide_eq_true (by omega)) (by omega) (Nat.le_of_ble_eq_true rfl) (ct_X3_has M k (by omega) (by first | assumption ) r c (by omega) (by omega)) dX3_pinAt_3 ?_
  refine z_beq (pc := 6) (tgt := 23) hc (by decide) dX3_pinAt_6 (fun h6 => ?_) (fun h6 => ?_)
  · show zJW X 23 [(0, zR k), (1, zI r), (2, zI c)] [] M
    rw [inT_X] at h6
    have h6 := of_decide_eq_false h6
    refine z_iconst (pc := 23) hc (-1) dX3_pinAt_23 ?_
    exact z_iret (pc := 24) hc he rfl dX3_pinAt_24 (by refine ⟨?_, rfl⟩; rw [piT_X]; (first | rw [if_pos h6] | rw [if_neg h6]))
  · show zJW X 9 [(0, zR k), (1, zI r), (2, zI c)] [] M
    rw [inT_X] at h6
    have h6 := of_decide_eq_true h6
    refine z_ald (pc := 9) hc 0 rfl dX3_pinAt_9 ?_
    refine fg_X3_26 (pc := 10) hc rfl (decide_eq_true (by omega)) (by omega) dX3_pinAt_10 ?_
    refine z_ild (pc := 13) hc 1 rfl dX3_pinAt_13 ?_
    refine z_bipush (pc := 14) hc 12 (by decide) dX3_pinAt_14 ?_
    refine z_imul (pc := 16) hc dX3_pinAt_16 ?_
    refine z_ild (pc := 17) hc 2 rfl dX3_pinAt_17 ?_
    refine z_iadd (pc := 18) hc dX3_pinAt_18 ?_
    refine z_iald (pc := 19) hc (decide_eq_true (by omega)) (ztm_pi (by omega)) (zar_pi (by omega)) (by decide) (by omega) dX3_pinAt_19 ?_
    refine z_goto (pc := 20) (tgt := 24) hc (by decide) dX3_pinAt_20 ?_
    exact z_iret (pc := 24) hc he rfl dX3_pinAt_24 (by refine ⟨?_, rfl⟩; rw [piT_X]; (first | rw [if_pos h6] | rw [if_neg h6]))

set_option maxRecDepth 100000 in
set_option maxHeartbeats 4000000 in
theorem ct_X3_isPinnedAt (M : Mem) (k : Nat) (hk : k < 9) (hS : zSk M k) (r c : Int) (hb_r : -2147483648 ≤ r ∧ r < 2147483648) (hb_c : -2147483648 ≤ c ∧ c < 2147483648)  : zCt yX3_isPinnedAt KX3_isPinnedAt [zR k, zI r, zI c] M (fun zv zM => zv = some (zbz (decide (piT (tsX M k) r c ≠ -1))) ∧ zM = M) := by
  obtain ⟨hs1, hs2, hs3, hs4, hs5, hs6, hs7⟩ := id hS
  refine z_met (by decide) rfl (Nat.le_of_ble_eq_true rfl) (fun X hc he => ?_)
  show zJW X 0 [(0, zR k), (1, zI r), (2, zI c)] [] M
  refine z_ald (pc := 0) hc 0 rfl dX3_isPinnedAt_0 ?_
  refine z_ild (pc := 1) hc 1 rfl dX3_isPinnedAt_1 ?_
  refine z_ild (pc := 2) hc 2 rfl dX3_isPinnedAt_2 ?_
  refine kc_X3_43 (pc := 3) hc rfl (zfitX (by decide) rfl rfl) (decide_eq_true (by omega)) (by omega) (Nat.le_of_ble_eq_true rfl) (ct_X3_pinAt M k (by omega) (by first | assumption ) r c (by omega) (by omega)) dX3_isPinnedAt_3 ?_
  refine z_iconst (pc := 6) hc (-1) dX3_isPinnedAt_6 ?_
  refine z_ceq (pc := 7) (tgt := 14) hc (by have := piT_bd hS r c; omega) (by decide) dX3_isPinnedAt_7 (fun h7 => ?_) (fun h7 => ?_)
  · show zJW X 14 [(0, zR k), (1, zI r), (2, zI c)] [] M
    refine z_iconst (pc := 14) hc 0 dX3_isPinnedAt_14 ?_
    exact z_bret (pc := 15) (a := false) hc he rfl dX3_isPinnedAt_15 (by refine ⟨?_, rfl⟩; congr 2; (first | exact (decide_eq_true (by omega)).symm | exact (decide_eq_false (by omega)).symm))
  · show zJW X 10 [(0, zR k), (1, zI r), (2, zI c)] [] M
    refine z_iconst (pc := 10) hc 1 dX3_isPinnedAt_10 ?_
    refine z_goto (pc := 11) (tgt := 15) hc (by decide) dX3_isPinnedAt_11 ?_
    exact z_bret (pc := 15) (a := true) hc he rfl dX3_isPinnedAt_15 (by refine ⟨?_, rfl⟩; congr 2; (first | exact (decide_eq_true (by omega)).symm | exact (decide_eq_false (by omega)).symm))

set_option maxRecDepth 100000 in
set_option maxHeartbeats 4000000 in
theorem ct_X3_putKind (M : Mem) (k : Nat) (hk : k < 9) (hS : zSk M k) (r c : Int) (hb_r : -2147483648 ≤ r ∧ r < 2147483648) (hb_c : -2147483648 ≤ c ∧ c < 2147483648) (b : Bool) : zCt yX3_putKind KX3_putKind [zR k, zI r, zI c, zI (zbz b)] M (fun zv zM => zv = some (zbz (inT (tsX M k) r c && (laT (tsX M k) r c != b))) ∧ zM = putK M k r c b) := by
  obtain ⟨hs1, hs2, hs3, hs4, hs5, hs6, hs7⟩ := id hS
  refine z_met (by decide) rfl (Nat.le_of_ble_eq_true rfl) (fun X hc he => ?_)
  show zJW X 0 [(0, zR k), (1, zI r), (2, zI c), (3, zI (zbz b))] [] M
  refine z_ald (pc := 0) hc 0 rfl dX3_putKind_0 ?_
  refine z_ild (pc := 1) hc 1 rfl dX3_putKind_1 ?_
  refine z_ild (pc := 2) hc 2 rfl dX3_putKind_2 ?_
  refine kc_X3_40 (pc := 3) hc rfl (zfitX (by decide) rfl rfl) (decide_eq_true (by omega)) (by omega) (Nat.le_of_ble_eq_true rfl) (ct_X3_has M k (by omega) (by first | assumption ) r c (by omega) (by omega)) dX3_putKind_3 ?_
  refine z_beq (pc := 6) (tgt := 19) hc (by decide) dX3_putKind_6 (fun h6 => ?_) (fun h6 => ?_)
  · show zJW X 19 [(0, zR k), (1, zI r), (2, zI c), (3, zI (zbz b))] [] M
    refine z_iconst (pc := 19) hc 0 dX3_putKind_19 ?_
    exact z_bret (pc := 20) (a := false) hc he rfl dX3_putKind_20 (by first | (refine ⟨by rw [h6]; rfl, ?_⟩; rw [putK, if_neg (by rw [h6]; exact fun h => absurd h.1 (by decide))]) | (have h16 := zbz_eq.mp h16; refine ⟨by rw [h16]; simp, ?_⟩; rw [putK, if_neg (fun h => h.2 h16)]))
  · show zJW X 9 [(0, zR k), (1, zI r), (2, zI c), (3, zI (zbz b))] [] M
    refine z_ald (pc := 9) hc 0 rfl dX3_putKind_9 ?_
    refine z_ild (pc := 10) hc 1 rfl dX3_putKind_10 ?_
    refine z_ild (pc := 11) hc 2 rfl dX3_putKind_11 ?_
    refine kc_X3_47 (pc := 12) hc rfl (zfitX (by decide) rfl rfl) (decide_eq_true (by omega)) (by omega) (Nat.le_of_ble_eq_true rfl) (ct_X3_isLandAt M k (by omega) (by first | assumption ) r c (by omega) (by omega)) dX3_putKind_12 ?_
    refine z_ild (pc := 15) hc 3 rfl dX3_putKind_15 ?_
    refine z_cne (pc := 16) (tgt := 21) hc (by have := zbz_bd (laT (tsX M k) r c); have := zbz_bd b; omega) (by decide) dX3_putKind_16 (fun h16 => ?_) (fun h16 => ?_)
    · show zJW X 21 [(0, zR k), (1, zI r), (2, zI c), (3, zI (zbz b))] [] M
      have h6' := h6
      rw [inT_X] at h6'
      have h6' := of_decide_eq_true h6'
      have h16 := zbz_ne.mp h16
      refine z_ald (pc := 21) hc 0 rfl dX3_putKind_21 ?_
      refine fg_X3_22 (pc := 22) hc rfl (decide_eq_true (by omega)) (by omega) dX3_putKind_22 ?_
      refine z_ild (pc := 25) hc 1 rfl dX3_putKind_25 ?_
      refine z_bipush (pc := 26) hc 12 (by decide) dX3_putKind_26 ?_
      refine z_imul (pc := 28) hc dX3_putKind_28 ?_
      refine z_ild (pc := 29) hc 2 rfl dX3_putKind_29 ?_
      refine z_iadd (pc := 30) hc dX3_putKind_30 ?_
      refine z_ild (pc := 31) hc 3 rfl dX3_putKind_31 ?_
      refine z_zast (pc := 32) (v := zbz b) hc (zbz_nar b) (decide_eq_true (by omega)) (ztm_la (by omega)) (zar_la (by omega)) (by decide) (by omega) dX3_putKind_32 ?_
      refine z_ald (pc := 33) hc 0 rfl dX3_putKind_33 ?_
      refine fg_X3_26 (pc := 34) hc rfl (decide_eq_true (by omega)) (by omega) dX3_putKind_34 ?_
      refine z_ild (pc := 37) hc 1 rfl dX3_putKind_37 ?_
      refine z_bipush (pc := 38) hc 12 (by decide) dX3_putKind_38 ?_
      refine z_imul (pc := 40) hc dX3_putKind_40 ?_
      refine z_ild (pc := 41) hc 2 rfl dX3_putKind_41 ?_
      refine z_iadd (pc := 42) hc dX3_putKind_42 ?_
      refine z_iconst (pc := 43) hc (-1) dX3_putKind_43 ?_
      refine z_iast (pc := 44) hc (decide_eq_true (by omega)) (ztm_pi (by omega)) (zar_pi (by omega)) (by decide) (by omega) dX3_putKind_44 ?_
      refine z_iconst (pc := 45) hc 1 dX3_putKind_45 ?_
      exact z_bret (pc := 46) (a := true) hc he rfl dX3_putKind_46 (by refine ⟨by rw [h6, show (laT (tsX M k) r c != b) = true from bne_iff_ne.mpr h16]; rfl, ?_⟩; rw [putK, if_pos ⟨h6, h16⟩])
    · show zJW X 19 [(0, zR k), (1, zI r), (2, zI c), (3, zI (zbz b))] [] M
      refine z_iconst (pc := 19) hc 0 dX3_putKind_19 ?_
      exact z_bret (pc := 20) (a := false) hc he rfl dX3_putKind_20 (by first | (refine ⟨by rw [h6]; rfl, ?_⟩; rw [putK, if_neg (by rw [h6]; exact fun h => absurd h.1 (by decide))]) | (have h16 := zbz_eq.mp h16; refine ⟨by rw [h16]; simp, ?_⟩; rw [putK, if_neg (fun h => h.2 h16)]))

set_option maxRecDepth 100000 in
set_option maxHeartbeats 4000000 in
theorem ct_X3_putPin (M : Mem) (k : Nat) (hk : k < 9) (hS : zSk M k) (r c : Int) (hb_r : -2147483648 ≤ r ∧ r < 2147483648) (hb_c : -2147483648 ≤ c ∧ c < 2147483648) (x : Int) : zCt yX3_putPin KX3_putPin [zR k, zI r, zI c, zI x] M (fun zv zM => zv = none ∧ zM = putP M k r c x) := by
  obtain ⟨hs1, hs2, hs3, hs4, hs5, hs6, hs7⟩ := id hS
  refine z_met (by decide) rfl (Nat.le_of_ble_eq_true rfl) (fun X hc he => ?_)
  show zJW X 0 [(0, zR k), (1, zI r), (2, zI c), (3, zI x)] [] M
  refine z_ald (pc := 0) hc 0 rfl dX3_putPin_0 ?_
  refine z_ild (pc := 1) hc 1 rfl dX3_putPin_1 ?_
  refine z_ild (pc := 2) hc 2 rfl dX3_putPin_2 ?_
  refine kc_X3_40 (pc := 3) hc rfl (zfitX (by decide) rfl rfl) (decide_eq_true (by omega)) (by omega) (Nat.le_of_ble_eq_true rfl) (ct_X3_has M k (by omega) (by first | assumption ) r c (by omega) (by omega)) dX3_putPin_3 ?_
  refine z_beq (pc := 6) (tgt := 21) hc (by decide) dX3_putPin_6 (fun h6 => ?_) (fun h6 => ?_)
  · show zJW X 21 [(0, zR k), (1, zI r), (2, zI c), (3, zI x)] [] M
    exact z_vret (pc := 21) hc he rfl dX3_putPin_21 (by refine ⟨rfl, ?_⟩; rw [putP]; (first | rw [if_pos h6] | rw [if_neg (by rw [h6]; decide)]))
  · show zJW X 9 [(0, zR k), (1, zI r), (2, zI c), (3, zI x)] [] M
    have h6' := h6
    rw [inT_X] at h6'
    have h6' := of_decide_eq_true h6'
    refine z_ald (pc := 9) hc 0 rfl dX3_putPin_9 ?_
    refine fg_X3_26 (pc := 10) hc rfl (decide_eq_true (by omega)) (by omega) dX3_putPin_10 ?_
    refine z_ild (pc := 13) hc 1 rfl dX3_putPin_13 ?_
    refine z_bipush (pc := 14) hc 12 (by decide) dX3_putPin_14 ?_
    refine z_imul (pc := 16) hc dX3_putPin_16 ?_
    refine z_ild (pc := 17) hc 2 rfl dX3_putPin_17 ?_
    refine z_iadd (pc := 18) hc dX3_putPin_18 ?_
    refine z_ild (pc := 19) hc 3 rfl dX3_putPin_19 ?_
    refine z_iast (pc := 20) hc (decide_eq_true (by omega)) (ztm_pi (by omega)) (zar_pi (by omega)) (by decide) (by omega) dX3_putPin_20 ?_
    exact z_vret (pc := 21) hc he rfl dX3_putPin_21 (by refine ⟨rfl, ?_⟩; rw [putP]; (first | rw [if_pos h6] | rw [if_neg (by rw [h6]; decide)]))

set_option maxHeartbeats 4000000 in
theorem ct_X5_rowStep (M : Mem) (d : Int) (hd : 0 ≤ d ∧ d < 8) : zCt yX5_rowStep KX5_rowStep [zI d] M (fun v M' => v = some (zrow d) ∧ M' = M) := by
  refine z_met (by decide) rfl (Nat.le_of_ble_eq_true rfl) (fun X hc he => ?_)
  obtain ⟨p, l, e, R, s, m, args, below, meth, c, D, dA, ids, ad, A, cs, nL, Q⟩ := X
  obtain ⟨hx, hb, hml, hret, hlk, hown, hts, hK, hA0, hA, hinj, hnod, hfl, hSt, -⟩ := hc
  obtain ⟨rfl, rfl⟩ := he
  intro H locs ls hP hS hv
  obtain ⟨t1, t2, hZ1, hT1, hZ2, hT2⟩ := hSt rfl
  refine va_gets (C := "CoastTiles") (n := "ROW_STEPS") (d := "[I") (ref := "CoastTiles") hx hb hZ1 hS hown (hts _ (List.mem_filter.mpr ⟨List.mem_of_getElem? (i := 216) (by decide +kernel), rfl⟩)) (fun _ h => h) dX5_rowStep_0 ?_
  refine lv_iload_n hx hb dX5_rowStep_3 rfl (zlv_at (v := zI d) hv 0 rfl) ?_
  refine lv_bipush hx hb (v := 7) dX5_rowStep_4 rfl ?_
  refine lv_iand hx hb dX5_rowStep_6 ?_
  have e7 : iI d &&& 7 = iI d := by
    obtain ⟨n, rfl⟩ := Int.eq_ofNat_of_zero_le hd.1
    exact (show ∀ n : Nat, n < 8 → iI (n : Int) &&& 7 = iI (n : Int) by decide) n (by omega)
  rw [e7]
  obtain ⟨h1, h2⟩ := iI_in (n := 8) hd.1 hd.2 (by decide)
  refine va_ti hx hb hT1 hS h1 (v := .int (iI (zrow d))) (by show Value.int (iI (zrow _)) = _; rw [h2]) dX5_rowStep_7 ?_
  exact W.iret (v := iI (zrow d)) hx hb hret (fun t ht hW => ⟨⟨some (zrow d), M, rfl, ⟨rfl, rfl⟩, by rw [ht]; exact hP⟩, hS.F ht⟩) hS.2.2 dX5_rowStep_8

set_option maxHeartbeats 4000000 in
theorem ct_X5_columnStep (M : Mem) (d : Int) (hd : 0 ≤ d ∧ d < 8) : zCt yX5_columnStep KX5_columnStep [zI d] M (fun v M' => v = some (zcol d) ∧ M' = M) := by
  refine z_met (by decide) rfl (Nat.le_of_ble_eq_true rfl) (fun X hc he => ?_)
  obtain ⟨p, l, e, R, s, m, args, below, meth, c, D, dA, ids, ad, A, cs, nL, Q⟩ := X
  obtain ⟨hx, hb, hml, hret, hlk, hown, hts, hK, hA0, hA, hinj, hnod, hfl, hSt, -⟩ := hc
  obtain ⟨rfl, rfl⟩ := he
  intro H locs ls hP hS hv
  obtain ⟨t1, t2, hZ1, hT1, hZ2, hT2⟩ := hSt rfl
  refine va_gets (C := "CoastTiles") (n := "COLUMN_STEPS") (d := "[I") (ref := "CoastTiles") hx hb hZ2 hS hown (hts _ (List.mem_filter.mpr ⟨List.mem_of_getElem? (i := 221) (by decide +kernel), rfl⟩)) (fun _ h => h) dX5_columnStep_0 ?_
  refine lv_iload_n hx hb dX5_columnStep_3 rfl (zlv_at (v := zI d) hv 0 rfl) ?_
  refine lv_bipush hx hb (v := 7) dX5_columnStep_4 rfl ?_
  refine lv_iand hx hb dX5_columnStep_6 ?_
  have e7 : iI d &&& 7 = iI d := by
    obtain ⟨n, rfl⟩ := Int.eq_ofNat_of_zero_le hd.1
    exact (show ∀ n : Nat, n < 8 → iI (n : Int) &&& 7 = iI (n : Int) by decide) n (by omega)
  rw [e7]
  obtain ⟨h1, h2⟩ := iI_in (n := 8) hd.1 hd.2 (by decide)
  refine va_ti hx hb hT2 hS h1 (v := .int (iI (zcol d))) (by show Value.int (iI (zcol _)) = _; rw [h2]) dX5_columnStep_7 ?_
  exact W.iret (v := iI (zcol d)) hx hb hret (fun t ht hW => ⟨⟨some (zcol d), M, rfl, ⟨rfl, rfl⟩, by rw [ht]; exact hP⟩, hS.F ht⟩) hS.2.2 dX5_columnStep_8

set_option maxRecDepth 100000 in
set_option maxHeartbeats 4000000 in
theorem ct_X3_becomeWater (M : Mem) (k : Nat) (hk : k < 9) (h w : Int) (hh : 1 ≤ h ∧ h ≤ 12) (hw : 1 ≤ w ∧ w ≤ 12) : zCt yX3_becomeWater KX3_becomeWater [zR k, zI h, zI w] M (fun zv zM => zv = none ∧ zM = watM M k h w 144) := by
  refine z_met (by decide) rfl (Nat.le_of_ble_eq_true rfl) (fun X hc he => ?_)
  show zJW X 0 [(0, zR k), (1, zI h), (2, zI w)] [] M
  refine z_ald (pc := 0) hc 0 rfl dX3_becomeWater_0 ?_
  refine z_ild (pc := 1) hc 1 rfl dX3_becomeWater_1 ?_
  refine z_bipush (pc := 2) hc 12 (by decide) dX3_becomeWater_2 ?_
  refine z_mmin (pc := 4) hc (List.mem_filter.mpr ⟨List.mem_of_getElem? (i := 198) (by decide +kernel), rfl⟩) (List.mem_filter.mpr ⟨List.mem_of_getElem? (i := 199) (by decide +kernel), rfl⟩) (List.mem_filter.mpr ⟨List.mem_of_getElem? (i := 19) (by decide +kernel), rfl⟩) (List.mem_filter.mpr ⟨List.mem_of_getElem? (i := 200) (by decide +kernel), rfl⟩) (by decide) (by omega) (Nat.le_of_ble_eq_true rfl) dX3_becomeWater_4 ?_
  rw [show min h 12 = h by omega]
  refine fp_X3_9 (pc := 7) hc rfl (decide_eq_true (by omega)) (by omega) dX3_becomeWater_7 ?_
  refine z_ald (pc := 10) hc 0 rfl dX3_becomeWater_10 ?_
  refine z_ild (pc := 11) hc 2 rfl dX3_becomeWater_11 ?_
  refine z_bipush (pc := 12) hc 12 (by decide) dX3_becomeWater_12 ?_
  refine z_mmin (pc := 14) hc (List.mem_filter.mpr ⟨List.mem_of_getElem? (i := 198) (by decide +kernel), rfl⟩) (List.mem_filter.mpr ⟨List.mem_of_getElem? (i := 199) (by decide +kernel), rfl⟩) (List.mem_filter.mpr ⟨List.mem_of_getElem? (i := 19) (by decide +kernel), rfl⟩) (List.mem_filter.mpr ⟨List.mem_of_getElem? (i := 200) (by decide +kernel), rfl⟩) (by decide) (by omega) (Nat.le_of_ble_eq_true rfl) dX3_becomeWater_14 ?_
  rw [show min w 12 = w by omega]
  refine fp_X3_15 (pc := 17) hc rfl (decide_eq_true (by omega)) (by omega) dX3_becomeWater_17 ?_
  refine z_iconst (pc := 20) hc 0 dX3_becomeWater_20 ?_
  refine z_ist (pc := 21) (lv' := [(3, zI 0), (0, zR k), (1, zI h), (2, zI w)]) hc rfl (by decide) dX3_becomeWater_21 ?_
  refine z_for 144 (fun i22 => [(3, zI ((i22 : Nat) : Int)), (0, zR k), (1, zI h), (2, zI w)]) (fun i22 => (watM M k h w ((i22 : Nat) : Int))) (by rfl) (by exact watM_0) ?_ (fun i22 hi22 ih22 => ?_)
  · show zJW X 22 [(3, zI 144), (0, zR k), (1, zI h), (2, zI w)] [] (watM M k h w 144)
    refine z_ild (pc := 22) hc 0 rfl dX3_becomeWater_22 ?_
    refine z_sipush (pc := 23) hc 144 (by decide) dX3_becomeWater_23 ?_
    refine z_cge (pc := 26) (tgt := 49) hc (by omega) (by decide) dX3_becomeWater_26 (fun h26 => ?_) (fun h26 => ?_)
    · show zJW X 49 [(3, zI 144), (0, zR k), (1, zI h), (2, zI w)] [] (watM M k h w 144)
      exact z_vret (pc := 49) hc he rfl dX3_becomeWater_49 (⟨rfl, rfl⟩)
    · exfalso; omega
  · show zJW X 22 [(3, zI ((i22 : Nat) : Int)), (0, zR k), (1, zI h), (2, zI w)] [] (watM M k h w ((i22 : Nat) : Int))
    refine z_ild (pc := 22) hc 0 rfl dX3_becomeWater_22 ?_
    refine z_sipush (pc := 23) hc 144 (by decide) dX3_becomeWater_23 ?_
    refine z_cge (pc := 26) (tgt := 49) hc (by omega) (by decide) dX3_becomeWater_26 (fun h26 => ?_) (fun h26 => ?_)
    · exfalso; omega
    · show zJW X 29 [(3, zI ((i22 : Nat) : Int)), (0, zR k), (1, zI h), (2, zI w)] [] (watM M k h w ((i22 : Nat) : Int))
      refine z_ald (pc := 29) hc 1 rfl dX3_becomeWater_29 ?_
      refine fg_X3_22 (pc := 30) hc rfl (decide_eq_true (by omega)) (by omega) dX3_becomeWater_30 ?_
      refine z_ild (pc := 33) hc 0 rfl dX3_becomeWater_33 ?_
      refine z_iconst (pc := 34) hc 0 dX3_becomeWater_34 ?_
      refine z_zast (pc := 35) (v := zbz false) hc (zbz_nar false) (decide_eq_true (by omega)) (ztm_la (by omega)) (zar_la (by omega)) (by decide) (by omega) dX3_becomeWater_35 ?_
      refine z_ald (pc := 36) hc 1 rfl dX3_becomeWater_36 ?_
      refine fg_X3_26 (pc := 37) hc rfl (decide_eq_true (by omega)) (by omega) dX3_becomeWater_37 ?_
      refine z_ild (pc := 40) hc 0 rfl dX3_becomeWater_40 ?_
      refine z_iconst (pc := 41) hc (-1) dX3_becomeWater_41 ?_
      refine z_iast (pc := 42) hc (decide_eq_true (by omega)) (ztm_pi (by omega)) (zar_pi (by omega)) (by decide) (by omega) dX3_becomeWater_42 ?_
      refine z_iinc (pc := 43) (lv' := [(3, zI (((i22 : Nat) : Int) + 1)), (0, zR k), (1, zI h), (2, zI w)]) hc 0 rfl rfl (by decide) dX3_becomeWater_43 ?_
      refine z_goto (pc := 46) (tgt := 22) hc (by decide) dX3_becomeWater_46 ?_
      exact zJW_eq (by rfl) rfl (by exact watM_s i22) ih22

set_option maxRecDepth 100000 in
set_option maxHeartbeats 4000000 in
theorem ct_X3_copyFrom (M : Mem) (k j : Nat) (hk : k < 9) (hj : j < 9) (hkj : k ≠ j) (hS : zSk M j) : zCt yX3_copyFrom KX3_copyFrom [zR k, zR j] M (fun zv zM => zv = none ∧ zM = copM M k j 144) := by
  obtain ⟨hs1, hs2, hs3, hs4, hs5, hs6, hs7⟩ := id hS
  have hjk : j ≠ k := fun h => hkj h.symm
  refine z_met (by decide) rfl (Nat.le_of_ble_eq_true rfl) (fun X hc he => ?_)
  show zJW X 0 [(0, zR k), (1, zR j)] [] M
  refine z_ald (pc := 0) hc 0 rfl dX3_copyFrom_0 ?_
  refine z_ald (pc := 1) hc 1 rfl dX3_copyFrom_1 ?_
  refine fg_X3_9 (pc := 2) hc rfl (decide_eq_true (by omega)) (by omega) dX3_copyFrom_2 ?_
  refine fp_X3_9 (pc := 5) hc rfl (decide_eq_true (by omega)) (by omega) dX3_copyFrom_5 ?_
  refine z_ald (pc := 8) hc 0 rfl dX3_copyFrom_8 ?_
  refine z_ald (pc := 9) hc 1 rfl dX3_copyFrom_9 ?_
  refine fg_X3_15 (pc := 10) hc rfl (decide_eq_true (by omega)) (by omega) dX3_copyFrom_10 ?_
  rw [show (zup M k 0 (M j 0)) j = M j from zup_ne hjk]
  refine fp_X3_15 (pc := 13) hc rfl (decide_eq_true (by omega)) (by omega) dX3_copyFrom_13 ?_
  refine z_ald (pc := 16) hc 0 rfl dX3_copyFrom_16 ?_
  refine z_ald (pc := 17) hc 1 rfl dX3_copyFrom_17 ?_
  refine fg_X3_18 (pc := 18) hc rfl (decide_eq_true (by omega)) (by omega) dX3_copyFrom_18 ?_
  rw [show zup (zup M k 0 (M j 0)) k 1 (M j 1) j = M j from (zup_ne hjk).trans (zup_ne hjk), zbz_of hs5]
  refine fp_X3_18 (pc := 21) (b := (decide (M j 2 = 1))) hc rfl (decide_eq_true (by omega)) (by omega) dX3_copyFrom_21 ?_
  rw [← zbz_of hs5]
  refine z_iconst (pc := 24) hc 0 dX3_copyFrom_24 ?_
  refine z_ist (pc := 25) (lv' := [(2, zI 0), (0, zR k), (1, zR j)]) hc rfl (by decide) dX3_copyFrom_25 ?_
  refine z_for 144 (fun i26 => [(2, zI ((i26 : Nat) : Int)), (0, zR k), (1, zR j)]) (fun i26 => (copM M k j ((i26 : Nat) : Int))) (by rfl) (by exact copM_0) ?_ (fun i26 hi26 ih26 => ?_)
  · show zJW X 26 [(2, zI 144), (0, zR k), (1, zR j)] [] (copM M k j 144)
    refine z_ild (pc := 26) hc 0 rfl dX3_copyFrom_26 ?_
    refine z_sipush (pc := 27) hc 144 (by decide) dX3_copyFrom_27 ?_
    refine z_cge (pc := 30) (tgt := 63) hc (by omega) (by decide) dX3_copyFrom_30 (fun h30 => ?_) (fun h30 => ?_)
    · show zJW X 63 [(2, zI 144), (0, zR k), (1, zR j)] [] (copM M k j 144)
      exact z_vret (pc := 63) hc he rfl dX3_copyFrom_63 (⟨rfl, rfl⟩)
    · exfalso; omega
  · show zJW X 26 [(2, zI ((i26 : Nat) : Int)), (0, zR k), (1, zR j)] [] (copM M k j ((i26 : Nat) : Int))
    refine z_ild (pc := 26) hc 0 rfl dX3_copyFrom_26 ?_
    refine z_sipush (pc := 27) hc 144 (by decide) dX3_copyFrom_27 ?_
    refine z_cge (pc := 30) (tgt := 63) hc (by omega) (by decide) dX3_copyFrom_30 (fun h30 => ?_) (fun h30 => ?_)
    · exfalso; omega
    · show zJW X 33 [(2, zI ((i26 : Nat) : Int)), (0, zR k), (1, zR j)] [] (copM M k j ((i26 : Nat) : Int))
      refine z_ald (pc := 33) hc 1 rfl dX3_copyFrom_33 ?_
      refine fg_X3_22 (pc := 34) hc rfl (decide_eq_true (by omega)) (by omega) dX3_copyFrom_34 ?_
      refine z_ild (pc := 37) hc 0 rfl dX3_copyFrom_37 ?_
      refine z_ald (pc := 38) hc 2 rfl dX3_copyFrom_38 ?_
      refine fg_X3_22 (pc := 39) hc rfl (decide_eq_true (by omega)) (by omega) dX3_copyFrom_39 ?_
      refine z_ild (pc := 42) hc 0 rfl dX3_copyFrom_42 ?_
      refine z_zald (pc := 43) hc (decide_eq_true (by omega)) (ztm_la (by omega)) (zar_la (by omega)) (by decide) (by omega) dX3_copyFrom_43 ?_
      rw [copM_off (by omega) (by omega) (by omega), zbz_of (hs6 ((i26 : Nat) : Int) (by omega) (by omega))]
      refine z_zast (pc := 44) (v := zbz (decide (M (j + 9) ((i26 : Nat) : Int) = 1))) hc (zbz_nar (decide (M (j + 9) ((i26 : Nat) : Int) = 1))) (decide_eq_true (by omega)) (ztm_la (by omega)) (zar_la (by omega)) (by decide) (by omega) dX3_copyFrom_44 ?_
      rw [← zbz_of (hs6 ((i26 : Nat) : Int) (by omega) (by omega))]
      refine z_ald (pc := 45) hc 1 rfl dX3_copyFrom_45 ?_
      refine fg_X3_26 (pc := 46) hc rfl (decide_eq_true (by omega)) (by omega) dX3_copyFrom_46 ?_
      refine z_ild (pc := 49) hc 0 rfl dX3_copyFrom_49 ?_
      refine z_ald (pc := 50) hc 2 rfl dX3_copyFrom_50 ?_
      refine fg_X3_26 (pc := 51) hc rfl (decide_eq_true (by omega)) (by omega) dX3_copyFrom_51 ?_
      refine z_ild (pc := 54) hc 0 rfl dX3_copyFrom_54 ?_
      refine z_iald (pc := 55) hc (decide_eq_true (by omega)) (ztm_pi (by omega)) (zar_pi (by omega)) (by decide) (by omega) dX3_copyFrom_55 ?_
      rw [show (zup (copM M k j ((i26 : Nat) : Int)) (k + 9) ((i26 : Nat) : Int) (M (j + 9) ((i26 : Nat) : Int))) (j + 18) = M (j + 18) from (zup_ne (by omega)).trans (funext fun z => copM_off (by omega) (by omega) (by omega))]
      refine z_iast (pc := 56) hc (decide_eq_true (by omega)) (ztm_pi (by omega)) (zar_pi (by omega)) (by decide) (by omega) dX3_copyFrom_56 ?_
      refine z_iinc (pc := 57) (lv' := [(2, zI (((i26 : Nat) : Int) + 1)), (0, zR k), (1, zR j)]) hc 0 rfl rfl (by decide) dX3_copyFrom_57 ?_
      refine z_goto (pc := 60) (tgt := 26) hc (by decide) dX3_copyFrom_60 ?_
      exact zJW_eq (by rfl) rfl (by exact copM_s i26) ih26

set_option maxRecDepth 100000 in
set_option maxHeartbeats 4000000 in
theorem ct_X3_surroundingsOf (M : Mem) (k : Nat) (hk : k < 9) (hS : zSk M k) (r c : Int) (hb_r : -100000 ≤ r ∧ r < 100000) (hb_c : -100000 ≤ c ∧ c < 100000)  : zCt yX3_surroundingsOf KX3_surroundingsOf [zR k, zI r, zI c] M (fun zv zM => zv = some (arT (tsX M k) r c) ∧ zM = M) := by
  obtain ⟨hs1, hs2, hs3, hs4, hs5, hs6, hs7⟩ := id hS
  refine z_met (by decide) rfl (Nat.le_of_ble_eq_true rfl) (fun X hc he => ?_)
  show zJW X 0 [(0, zR k), (1, zI r), (2, zI c)] [] M
  refine z_iconst (pc := 0) hc 0 dX3_surroundingsOf_0 ?_
  refine z_ist (pc := 1) (lv' := [(3, zI 0), (0, zR k), (1, zI r), (2, zI c)]) hc rfl (by decide) dX3_surroundingsOf_1 ?_
  refine z_iconst (pc := 2) hc 0 dX3_surroundingsOf_2 ?_
  refine z_isw (pc := 3) (lv' := [(4, zI 0), (3, zI 0), (0, zR k), (1, zI r), (2, zI c)]) hc rfl (by decide) dX3_surroundingsOf_3 ?_
  refine z_for 8 (fun i5 => [(4, zI ((i5 : Nat) : Int)), (3, zI (zmk (afT (tsX M k) r c) i5)), (0, zR k), (1, zI r), (2, zI c)]) (fun i5 => M) (by rfl) (by rfl) ?_ (fun i5 hi5 ih5 => ?_)
  · show zJW X 5 [(4, zI 8), (3, zI (zmk (afT (tsX M k) r c) 8)), (0, zR k), (1, zI r), (2, zI c)] [] M
    refine z_ilw (pc := 5) hc 0 rfl dX3_surroundingsOf_5 ?_
    refine z_bipush (pc := 7) hc 8 (by decide) dX3_surroundingsOf_7 ?_
    refine z_cge (pc := 9) (tgt := 46) hc (by omega) (by decide) dX3_surroundingsOf_9 (fun h9 => ?_) (fun h9 => ?_)
    · show zJW X 46 [(4, zI 8), (3, zI (zmk (afT (tsX M k) r c) 8)), (0, zR k), (1, zI r), (2, zI c)] [] M
      refine z_ild (pc := 46) hc 1 rfl dX3_surroundingsOf_46 ?_
      exact z_iret (pc := 47) hc he rfl dX3_surroundingsOf_47 (⟨rfl, rfl⟩)
    · exfalso; omega
  · show zJW X 5 [(4, zI ((i5 : Nat) : Int)), (3, zI (zmk (afT (tsX M k) r c) i5)), (0, zR k), (1, zI r), (2, zI c)] [] M
    have zr := zrow_bd i5
    have zc := zcol_bd i5
    refine z_ilw (pc := 5) hc 0 rfl dX3_surroundingsOf_5 ?_
    refine z_bipush (pc := 7) hc 8 (by decide) dX3_surroundingsOf_7 ?_
    refine z_cge (pc := 9) (tgt := 46) hc (by omega) (by decide) dX3_surroundingsOf_9 (fun h9 => ?_) (fun h9 => ?_)
    · exfalso; omega
    · show zJW X 12 [(4, zI ((i5 : Nat) : Int)), (3, zI (zmk (afT (tsX M k) r c) i5)), (0, zR k), (1, zI r), (2, zI c)] [] M
      refine z_ald (pc := 12) hc 2 rfl dX3_surroundingsOf_12 ?_
      refine z_ild (pc := 13) hc 3 rfl dX3_surroundingsOf_13 ?_
      refine z_ilw (pc := 14) hc 0 rfl dX3_surroundingsOf_14 ?_
      refine kc_X3_55 (pc := 16) hc rfl (zfitS (by decide) rfl rfl) (Nat.le_of_ble_eq_true rfl) (ct_X5_rowStep M ((i5 : Nat) : Int) (by omega)) dX3_surroundingsOf_16 ?_
      refine z_iadd (pc := 19) hc dX3_surroundingsOf_19 ?_
      refine z_ild (pc := 20) hc 4 rfl dX3_surroundingsOf_20 ?_
      refine z_ilw (pc := 21) hc 0 rfl dX3_surroundingsOf_21 ?_
      refine kc_X3_59 (pc := 23) hc rfl (zfitS (by decide) rfl rfl) (Nat.le_of_ble_eq_true rfl) (ct_X5_columnStep M ((i5 : Nat) : Int) (by omega)) dX3_surroundingsOf_23 ?_
      refine z_iadd (pc := 26) hc dX3_surroundingsOf_26 ?_
      refine kc_X3_47 (pc := 27) hc rfl (zfitX (by decide) rfl rfl) (decide_eq_true (by omega)) (by omega) (Nat.le_of_ble_eq_true rfl) (ct_X3_isLandAt M k (by omega) (by first | assumption ) (r + (zrow ((i5 : Nat) : Int))) (c + (zcol ((i5 : Nat) : Int))) (by omega) (by omega)) dX3_surroundingsOf_27 ?_
      refine z_beq (pc := 30) (tgt := 40) hc (by decide) dX3_surroundingsOf_30 (fun h30 => ?_) (fun h30 => ?_)
      · show zJW X 40 [(4, zI ((i5 : Nat) : Int)), (3, zI (zmk (afT (tsX M k) r c) i5)), (0, zR k), (1, zI r), (2, zI c)] [] M
        refine z_iinc (pc := 40) (lv' := [(4, zI (((i5 : Nat) : Int) + 1)), (3, zI (zmk (afT (tsX M k) r c) i5)), (0, zR k), (1, zI r), (2, zI c)]) hc 0 rfl rfl (by decide) dX3_surroundingsOf_40 ?_
        refine z_goto (pc := 43) (tgt := 5) hc (by decide) dX3_surroundingsOf_43 ?_
        exact zJW_eq (by first | (rw [zmk_or (f := afT (tsX M k) r c) hi5 (by simp [afT, h30])]; rfl) | (rw [zmk_no (f := afT (tsX M k) r c) (d := i5) (by simp [afT, h30])]; rfl)) rfl (by rfl) ih5
      · show zJW X 33 [(4, zI ((i5 : Nat) : Int)), (3, zI (zmk (afT (tsX M k) r c) i5)), (0, zR k), (1, zI r), (2, zI c)] [] M
        refine z_ild (pc := 33) hc 1 rfl dX3_surroundingsOf_33 ?_
        refine z_iconst (pc := 34) hc 1 dX3_surroundingsOf_34 ?_
        refine z_ilw (pc := 35) hc 0 rfl dX3_surroundingsOf_35 ?_
        refine z_ishl (pc := 37) hc dX3_surroundingsOf_37 ?_
        refine z_ior (pc := 38) hc dX3_surroundingsOf_38 ?_
        refine z_ist (pc := 39) (lv' := [(3, zI (zor (zmk (afT (tsX M k) r c) i5) (zsl 1 ((i5 : Nat) : Int)))), (4, zI ((i5 : Nat) : Int)), (0, zR k), (1, zI r), (2, zI c)]) hc rfl (by decide) dX3_surroundingsOf_39 ?_
        refine z_iinc (pc := 40) (lv' := [(4, zI (((i5 : Nat) : Int) + 1)), (3, zI (zor (zmk (afT (tsX M k) r c) i5) (zsl 1 ((i5 : Nat) : Int)))), (0, zR k), (1, zI r), (2, zI c)]) hc 1 rfl rfl (by decide) dX3_surroundingsOf_40 ?_
        refine z_goto (pc := 43) (tgt := 5) hc (by decide) dX3_surroundingsOf_43 ?_
        exact zJW_eq (by first | (rw [zmk_or (f := afT (tsX M k) r c) hi5 (by simp [afT, h30])]; rfl) | (rw [zmk_no (f := afT (tsX M k) r c) (d := i5) (by simp [afT, h30])]; rfl)) rfl (by rfl) ih5

set_option maxRecDepth 100000 in
set_option maxHeartbeats 4000000 in
theorem ct_X3_outsideBitsOf (M : Mem) (k : Nat) (hk : k < 9) (hS : zSk M k) (r c : Int) (hb_r : -100000 ≤ r ∧ r < 100000) (hb_c : -100000 ≤ c ∧ c < 100000)  : zCt yX3_outsideBitsOf KX3_outsideBitsOf [zR k, zI r, zI c] M (fun zv zM => zv = some (obT (tsX M k) r c) ∧ zM = M) := by
  obtain ⟨hs1, hs2, hs3, hs4, hs5, hs6, hs7⟩ := id hS
  refine z_met (by decide) rfl (Nat.le_of_ble_eq_true rfl) (fun X hc he => ?_)
  show zJW X 0 [(0, zR k), (1, zI r), (2, zI c)] [] M
  refine z_iconst (pc := 0) hc 0 dX3_outsideBitsOf_0 ?_
  refine z_ist (pc := 1) (lv' := [(3, zI 0), (0, zR k), (1, zI r), (2, zI c)]) hc rfl (by decide) dX3_outsideBitsOf_1 ?_
  refine z_iconst (pc := 2) hc 0 dX3_outsideBitsOf_2 ?_
  refine z_isw (pc := 3) (lv' := [(4, zI 0), (3, zI 0), (0, zR k), (1, zI r), (2, zI c)]) hc rfl (by decide) dX3_outsideBitsOf_3 ?_
  refine z_for 8 (fun i5 => [(4, zI ((i5 : Nat) : Int)), (3, zI (zmk (ofT (tsX M k) r c) i5)), (0, zR k), (1, zI r), (2, zI c)]) (fun i5 => M) (by rfl) (by rfl) ?_ (fun i5 hi5 ih5 => ?_)
  · show zJW X 5 [(4, zI 8), (3, zI (zmk (ofT (tsX M k) r c) 8)), (0, zR k), (1, zI r), (2, zI c)] [] M
    refine z_ilw (pc := 5) hc 0 rfl dX3_outsideBitsOf_5 ?_
    refine z_bipush (pc := 7) hc 8 (by decide) dX3_outsideBitsOf_7 ?_
    refine z_cge (pc := 9) (tgt := 46) hc (by omega) (by decide) dX3_outsideBitsOf_9 (fun h9 => ?_) (fun h9 => ?_)
    · show zJW X 46 [(4, zI 8), (3, zI (zmk (ofT (tsX M k) r c) 8)), (0, zR k), (1, zI r), (2, zI c)] [] M
      refine z_ild (pc := 46) hc 1 rfl dX3_outsideBitsOf_46 ?_
      exact z_iret (pc := 47) hc he rfl dX3_outsideBitsOf_47 (⟨rfl, rfl⟩)
    · exfalso; omega
  · show zJW X 5 [(4, zI ((i5 : Nat) : Int)), (3, zI (zmk (ofT (tsX M k) r c) i5)), (0, zR k), (1, zI r), (2, zI c)] [] M
    have zr := zrow_bd i5
    have zc := zcol_bd i5
    refine z_ilw (pc := 5) hc 0 rfl dX3_outsideBitsOf_5 ?_
    refine z_bipush (pc := 7) hc 8 (by decide) dX3_outsideBitsOf_7 ?_
    refine z_cge (pc := 9) (tgt := 46) hc (by omega) (by decide) dX3_outsideBitsOf_9 (fun h9 => ?_) (fun h9 => ?_)
    · exfalso; omega
    · show zJW X 12 [(4, zI ((i5 : Nat) : Int)), (3, zI (zmk (ofT (tsX M k) r c) i5)), (0, zR k), (1, zI r), (2, zI c)] [] M
      refine z_ald (pc := 12) hc 2 rfl dX3_outsideBitsOf_12 ?_
      refine z_ild (pc := 13) hc 3 rfl dX3_outsideBitsOf_13 ?_
      refine z_ilw (pc := 14) hc 0 rfl dX3_outsideBitsOf_14 ?_
      refine kc_X3_55 (pc := 16) hc rfl (zfitS (by decide) rfl rfl) (Nat.le_of_ble_eq_true rfl) (ct_X5_rowStep M ((i5 : Nat) : Int) (by omega)) dX3_outsideBitsOf_16 ?_
      refine z_iadd (pc := 19) hc dX3_outsideBitsOf_19 ?_
      refine z_ild (pc := 20) hc 4 rfl dX3_outsideBitsOf_20 ?_
      refine z_ilw (pc := 21) hc 0 rfl dX3_outsideBitsOf_21 ?_
      refine kc_X3_59 (pc := 23) hc rfl (zfitS (by decide) rfl rfl) (Nat.le_of_ble_eq_true rfl) (ct_X5_columnStep M ((i5 : Nat) : Int) (by omega)) dX3_outsideBitsOf_23 ?_
      refine z_iadd (pc := 26) hc dX3_outsideBitsOf_26 ?_
      refine kc_X3_40 (pc := 27) hc rfl (zfitX (by decide) rfl rfl) (decide_eq_true (by omega)) (by omega) (Nat.le_of_ble_eq_true rfl) (ct_X3_has M k (by omega) (by first | assumption ) (r + (zrow ((i5 : Nat) : Int))) (c + (zcol ((i5 : Nat) : Int))) (by omega) (by omega)) dX3_outsideBitsOf_27 ?_
      refine z_bne (pc := 30) (tgt := 40) hc (by decide) dX3_outsideBitsOf_30 (fun h30 => ?_) (fun h30 => ?_)
      · show zJW X 40 [(4, zI ((i5 : Nat) : Int)), (3, zI (zmk (ofT (tsX M k) r c) i5)), (0, zR k), (1, zI r), (2, zI c)] [] M
        refine z_iinc (pc := 40) (lv' := [(4, zI (((i5 : Nat) : Int) + 1)), (3, zI (zmk (ofT (tsX M k) r c) i5)), (0, zR k), (1, zI r), (2, zI c)]) hc 0 rfl rfl (by decide) dX3_outsideBitsOf_40 ?_
        refine z_goto (pc := 43) (tgt := 5) hc (by decide) dX3_outsideBitsOf_43 ?_
        exact zJW_eq (by first | (rw [zmk_or (f := ofT (tsX M k) r c) hi5 (by simp [ofT, h30])]; rfl) | (rw [zmk_no (f := ofT (tsX M k) r c) (d := i5) (by simp [ofT, h30])]; rfl)) rfl (by rfl) ih5
      · show zJW X 33 [(4, zI ((i5 : Nat) : Int)), (3, zI (zmk (ofT (tsX M k) r c) i5)), (0, zR k), (1, zI r), (2, zI c)] [] M
        refine z_ild (pc := 33) hc 1 rfl dX3_outsideBitsOf_33 ?_
        refine z_iconst (pc := 34) hc 1 dX3_outsideBitsOf_34 ?_
        refine z_ilw (pc := 35) hc 0 rfl dX3_outsideBitsOf_35 ?_
        refine z_ishl (pc := 37) hc dX3_outsideBitsOf_37 ?_
        refine z_ior (pc := 38) hc dX3_outsideBitsOf_38 ?_
        refine z_ist (pc := 39) (lv' := [(3, zI (zor (zmk (ofT (tsX M k) r c) i5) (zsl 1 ((i5 : Nat) : Int)))), (4, zI ((i5 : Nat) : Int)), (0, zR k), (1, zI r), (2, zI c)]) hc rfl (by decide) dX3_outsideBitsOf_39 ?_
        refine z_iinc (pc := 40) (lv' := [(4, zI (((i5 : Nat) : Int) + 1)), (3, zI (zor (zmk (ofT (tsX M k) r c) i5) (zsl 1 ((i5 : Nat) : Int)))), (0, zR k), (1, zI r), (2, zI c)]) hc 1 rfl rfl (by decide) dX3_outsideBitsOf_40 ?_
        refine z_goto (pc := 43) (tgt := 5) hc (by decide) dX3_outsideBitsOf_43 ?_
        exact zJW_eq (by first | (rw [zmk_or (f := ofT (tsX M k) r c) hi5 (by simp [ofT, h30])]; rfl) | (rw [zmk_no (f := ofT (tsX M k) r c) (d := i5) (by simp [ofT, h30])]; rfl)) rfl (by rfl) ih5

set_option maxRecDepth 100000 in
set_option maxHeartbeats 4000000 in
theorem ct_X3_landTiles (M : Mem) (k : Nat) (hk : k < 9) (hS : zSk M k)  : zCt yX3_landTiles KX3_landTiles [zR k] M (fun zv zM => zv = some (lnT (tsX M k)) ∧ zM = M) := by
  obtain ⟨hs1, hs2, hs3, hs4, hs5, hs6, hs7⟩ := id hS
  refine z_met (by decide) rfl (Nat.le_of_ble_eq_true rfl) (fun X hc he => ?_)
  show zJW X 0 [(0, zR k)] [] M
  refine z_iconst (pc := 0) hc 0 dX3_landTiles_0 ?_
  refine z_ist (pc := 1) (lv' := [(1, zI 0), (0, zR k)]) hc rfl (by decide) dX3_landTiles_1 ?_
  refine z_iconst (pc := 2) hc 0 dX3_landTiles_2 ?_
  refine z_ist (pc := 3) (lv' := [(2, zI 0), (1, zI 0), (0, zR k)]) hc rfl (by decide) dX3_landTiles_3 ?_
  refine z_for ((M k 0).toNat) (fun i4 => [(2, zI ((i4 : Nat) : Int)), (1, zI (zrep (fun (r : Nat) (x : Int) => zrep (fun (c : Nat) (y : Int) => y + zbz (laT (tsX M k) r c)) (tW (tsX M k)).toNat x) i4 0)), (0, zR k)]) (fun i4 => M) (by rfl) (by rfl) ?_ (fun i4 hi4 ih4 => ?_)
  · show zJW X 4 [(2, zI ((((M k 0).toNat) : Nat) : Int)), (1, zI (zrep (fun (r : Nat) (x : Int) => zrep (fun (c : Nat) (y : Int) => y + zbz (laT (tsX M k) r c)) (tW (tsX M k)).toNat x) ((M k 0).toNat) 0)), (0, zR k)] [] M
    refine z_ild (pc := 4) hc 0 rfl dX3_landTiles_4 ?_
    refine z_ald (pc := 5) hc 2 rfl dX3_landTiles_5 ?_
    refine fg_X3_9 (pc := 6) hc rfl (decide_eq_true (by omega)) (by omega) dX3_landTiles_6 ?_
    refine z_cge (pc := 9) (tgt := 46) hc (by omega) (by decide) dX3_landTiles_9 (fun h9 => ?_) (fun h9 => ?_)
    · show zJW X 46 [(2, zI ((((M k 0).toNat) : Nat) : Int)), (1, zI (zrep (fun (r : Nat) (x : Int) => zrep (fun (c : Nat) (y : Int) => y + zbz (laT (tsX M k) r c)) (tW (tsX M k)).toNat x) ((M k 0).toNat) 0)), (0, zR k)] [] M
      refine z_ild (pc := 46) hc 1 rfl dX3_landTiles_46 ?_
      exact z_iret (pc := 47) hc he rfl dX3_landTiles_47 (⟨rfl, rfl⟩)
    · exfalso; omega
  · show zJW X 4 [(2, zI ((i4 : Nat) : Int)), (1, zI (zrep (fun (r : Nat) (x : Int) => zrep (fun (c : Nat) (y : Int) => y + zbz (laT (tsX M k) r c)) (tW (tsX M k)).toNat x) i4 0)), (0, zR k)] [] M
    refine z_ild (pc := 4) hc 0 rfl dX3_landTiles_4 ?_
    refine z_ald (pc := 5) hc 2 rfl dX3_landTiles_5 ?_
    refine fg_X3_9 (pc := 6) hc rfl (decide_eq_true (by omega)) (by omega) dX3_landTiles_6 ?_
    refine z_cge (pc := 9) (tgt := 46) hc (by omega) (by decide) dX3_landTiles_9 (fun h9 => ?_) (fun h9 => ?_)
    · exfalso; omega
    · show zJW X 12 [(2, zI ((i4 : Nat) : Int)), (1, zI (zrep (fun (r : Nat) (x : Int) => zrep (fun (c : Nat) (y : Int) => y + zbz (laT (tsX M k) r c)) (tW (tsX M k)).toNat x) i4 0)), (0, zR k)] [] M
      refine z_iconst (pc := 12) hc 0 dX3_landTiles_12 ?_
      refine z_ist (pc := 13) (lv' := [(3, zI 0), (2, zI ((i4 : Nat) : Int)), (1, zI (zrep (fun (r : Nat) (x : Int) => zrep (fun (c : Nat) (y : Int) => y + zbz (laT (tsX M k) r c)) (tW (tsX M k)).toNat x) i4 0)), (0, zR k)]) hc rfl (by decide) dX3_landTiles_13 ?_
      refine z_for ((M k 1).toNat) (fun i14 => [(3, zI ((i14 : Nat) : Int)), (2, zI ((i4 : Nat) : Int)), (1, zI (zrep (fun (c : Nat) (y : Int) => y + zbz (laT (tsX M k) i4 c)) i14 (zrep (fun (r : Nat) (x : Int) => zrep (fun (c : Nat) (y : Int) => y + zbz (laT (tsX M k) r c)) (tW (tsX M k)).toNat x) i4 0))), (0, zR k)]) (fun i14 => M) (by rfl) (by rfl) ?_ (fun i14 hi14 ih14 => ?_)
      · show zJW X 14 [(3, zI ((((M k 1).toNat) : Nat) : Int)), (2, zI ((i4 : Nat) : Int)), (1, zI (zrep (fun (c : Nat) (y : Int) => y + zbz (laT (tsX M k) i4 c)) ((M k 1).toNat) (zrep (fun (r : Nat) (x : Int) => zrep (fun (c : Nat) (y : Int) => y + zbz (laT (tsX M k) r c)) (tW (tsX M k)).toNat x) i4 0))), (0, zR k)] [] M
        refine z_ild (pc := 14) hc 0 rfl dX3_landTiles_14 ?_
        refine z_ald (pc := 15) hc 3 rfl dX3_landTiles_15 ?_
        refine fg_X3_15 (pc := 16) hc rfl (decide_eq_true (by omega)) (by omega) dX3_landTiles_16 ?_
        refine z_cge (pc := 19) (tgt := 40) hc (by omega) (by decide) dX3_landTiles_19 (fun h19 => ?_) (fun h19 => ?_)
        · show zJW X 40 [(3, zI ((((M k 1).toNat) : Nat) : Int)), (2, zI ((i4 : Nat) : Int)), (1, zI (zrep (fun (c : Nat) (y : Int) => y + zbz (laT (tsX M k) i4 c)) ((M k 1).toNat) (zrep (fun (r : Nat) (x : Int) => zrep (fun (c : Nat) (y : Int) => y + zbz (laT (tsX M k) r c)) (tW (tsX M k)).toNat x) i4 0))), (0, zR k)] [] M
          refine z_iinc (pc := 40) (lv' := [(2, zI (((i4 : Nat) : Int) + 1)), (3, zI ((((M k 1).toNat) : Nat) : Int)), (1, zI (zrep (fun (c : Nat) (y : Int) => y + zbz (laT (tsX M k) i4 c)) ((M k 1).toNat) (zrep (fun (r : Nat) (x : Int) => zrep (fun (c : Nat) (y : Int) => y + zbz (laT (tsX M k) r c)) (tW (tsX M k)).toNat x) i4 0))), (0, zR k)]) hc 1 rfl rfl (by decide) dX3_landTiles_40 ?_
          refine z_goto (pc := 43) (tgt := 4) hc (by decide) dX3_landTiles_43 ?_
          refine zJW_sub (lv' := [(2, zI (((i4 : Nat) : Int) + 1)), (1, zI (zrep (fun (c : Nat) (y : Int) => y + zbz (laT (tsX M k) i4 c)) ((M k 1).toNat) (zrep (fun (r : Nat) (x : Int) => zrep (fun (c : Nat) (y : Int) => y + zbz (laT (tsX M k) r c)) (tW (tsX M k)).toNat x) i4 0))), (0, zR k)]) [0, 2, 3] rfl ?_
          exact zJW_eq (by rfl) rfl (by rfl) ih4
        · exfalso; omega
      · show zJW X 14 [(3, zI ((i14 : Nat) : Int)), (2, zI ((i4 : Nat) : Int)), (1, zI (zrep (fun (c : Nat) (y : Int) => y + zbz (laT (tsX M k) i4 c)) i14 (zrep (fun (r : Nat) (x : Int) => zrep (fun (c : Nat) (y : Int) => y + zbz (laT (tsX M k) r c)) (tW (tsX M k)).toNat x) i4 0))), (0, zR k)] [] M
        refine z_ild (pc := 14) hc 0 rfl dX3_landTiles_14 ?_
        refine z_ald (pc := 15) hc 3 rfl dX3_landTiles_15 ?_
        refine fg_X3_15 (pc := 16) hc rfl (decide_eq_true (by omega)) (by omega) dX3_landTiles_16 ?_
        refine z_cge (pc := 19) (tgt := 40) hc (by omega) (by decide) dX3_landTiles_19 (fun h19 => ?_) (fun h19 => ?_)
        · exfalso; omega
        · show zJW X 22 [(3, zI ((i14 : Nat) : Int)), (2, zI ((i4 : Nat) : Int)), (1, zI (zrep (fun (c : Nat) (y : Int) => y + zbz (laT (tsX M k) i4 c)) i14 (zrep (fun (r : Nat) (x : Int) => zrep (fun (c : Nat) (y : Int) => y + zbz (laT (tsX M k) r c)) (tW (tsX M k)).toNat x) i4 0))), (0, zR k)] [] M
          refine z_ald (pc := 22) hc 3 rfl dX3_landTiles_22 ?_
          refine z_ild (pc := 23) hc 1 rfl dX3_landTiles_23 ?_
          refine z_ild (pc := 24) hc 0 rfl dX3_landTiles_24 ?_
          refine kc_X3_47 (pc := 25) hc rfl (zfitX (by decide) rfl rfl) (decide_eq_true (by omega)) (by omega) (Nat.le_of_ble_eq_true rfl) (ct_X3_isLandAt M k (by omega) (by first | assumption ) ((i4 : Nat) : Int) ((i14 : Nat) : Int) (by omega) (by omega)) dX3_landTiles_25 ?_
          refine z_beq (pc := 28) (tgt := 34) hc (by decide) dX3_landTiles_28 (fun h28 => ?_) (fun h28 => ?_)
          · show zJW X 34 [(3, zI ((i14 : Nat) : Int)), (2, zI ((i4 : Nat) : Int)), (1, zI (zrep (fun (c : Nat) (y : Int) => y + zbz (laT (tsX M k) i4 c)) i14 (zrep (fun (r : Nat) (x : Int) => zrep (fun (c : Nat) (y : Int) => y + zbz (laT (tsX M k) r c)) (tW (tsX M k)).toNat x) i4 0))), (0, zR k)] [] M
            refine z_iinc (pc := 34) (lv' := [(3, zI (((i14 : Nat) : Int) + 1)), (2, zI ((i4 : Nat) : Int)), (1, zI (zrep (fun (c : Nat) (y : Int) => y + zbz (laT (tsX M k) i4 c)) i14 (zrep (fun (r : Nat) (x : Int) => zrep (fun (c : Nat) (y : Int) => y + zbz (laT (tsX M k) r c)) (tW (tsX M k)).toNat x) i4 0))), (0, zR k)]) hc 0 rfl rfl (by decide) dX3_landTiles_34 ?_
            refine z_goto (pc := 37) (tgt := 14) hc (by decide) dX3_landTiles_37 ?_
            exact zJW_eq (by simp only [zrep_succ, h28, zbz_t, zbz_f, Int.add_zero, Int.natCast_add, Int.natCast_one]) rfl (by rfl) ih14
          · show zJW X 31 [(3, zI ((i14 : Nat) : Int)), (2, zI ((i4 : Nat) : Int)), (1, zI (zrep (fun (c : Nat) (y : Int) => y + zbz (laT (tsX M k) i4 c)) i14 (zrep (fun (r : Nat) (x : Int) => zrep (fun (c : Nat) (y : Int) => y + zbz (laT (tsX M k) r c)) (tW (tsX M k)).toNat x) i4 0))), (0, zR k)] [] M
            refine z_iinc (pc := 31) (lv' := [(1, zI (zrep (fun (c : Nat) (y : Int) => y + zbz (laT (tsX M k) i4 c)) i14 (zrep (fun (r : Nat) (x : Int) => zrep (fun (c : Nat) (y : Int) => y + zbz (laT (tsX M k) r c)) (tW (tsX M k)).toNat x) i4 0) + 1)), (3, zI ((i14 : Nat) : Int)), (2, zI ((i4 : Nat) : Int)), (0, zR k)]) hc 2 rfl rfl (by decide) dX3_landTiles_31 ?_
            refine z_iinc (pc := 34) (lv' := [(3, zI (((i14 : Nat) : Int) + 1)), (1, zI (zrep (fun (c : Nat) (y : Int) => y + zbz (laT (tsX M k) i4 c)) i14 (zrep (fun (r : Nat) (x : Int) => zrep (fun (c : Nat) (y : Int) => y + zbz (laT (tsX M k) r c)) (tW (tsX M k)).toNat x) i4 0) + 1)), (2, zI ((i4 : Nat) : Int)), (0, zR k)]) hc 1 rfl rfl (by decide) dX3_landTiles_34 ?_
            refine z_goto (pc := 37) (tgt := 14) hc (by decide) dX3_landTiles_37 ?_
            refine zJW_sub (lv' := [(3, zI (((i14 : Nat) : Int) + 1)), (2, zI ((i4 : Nat) : Int)), (1, zI (zrep (fun (c : Nat) (y : Int) => y + zbz (laT (tsX M k) i4 c)) i14 (zrep (fun (r : Nat) (x : Int) => zrep (fun (c : Nat) (y : Int) => y + zbz (laT (tsX M k) r c)) (tW (tsX M k)).toNat x) i4 0) + 1)), (0, zR k)]) [0, 2, 1, 3] rfl ?_
            exact zJW_eq (by simp only [zrep_succ, h28, zbz_t, zbz_f, Int.add_zero, Int.natCast_add, Int.natCast_one]) rfl (by rfl) ih14
