set_option maxRecDepth 100000 in
set_option maxHeartbeats 4000000 in
theorem ct_X6_room (M : Mem) (hV : zxV (zmR M))  : zCt yX6_room KX6_room [zR 38] M (fun zv zM => zv = some (zxL (zmR M)) ∧ zM = M) := by
  obtain ⟨v1, v2, v3, v4, v5, v6, v7, v8⟩ := id hV
  obtain ⟨l1, l2, l3⟩ := zxV_L hV
  obtain ⟨n1, n2⟩ := zxN_bd hV
  dsimp only [zmR] at v1 v2 v3 v5 v6 v7 v8 l3
  refine z_met (by decide) rfl (Nat.le_of_ble_eq_true rfl) (fun X hc he => ?_)
  show zJW X 0 [(0, zR 38)] [] M
  refine z_ald (pc := 0) hc 0 rfl dX6_room_0 ?_
  refine fg_X6_179 (pc := 1) hc rfl rfl dX6_room_1 ?_
  refine z_ine (pc := 4) (tgt := 12) hc (by omega) (by decide) dX6_room_4 (fun h4 => ?_) (fun h4 => ?_)
  · show zJW X 12 [(0, zR 38)] [] M
    refine z_ald (pc := 12) hc 0 rfl dX6_room_12 ?_
    refine fg_X6_182 (pc := 13) hc rfl rfl dX6_room_13 ?_
    refine z_ald (pc := 16) hc 0 rfl dX6_room_16 ?_
    refine fg_X6_185 (pc := 17) hc rfl rfl dX6_room_17 ?_
    refine z_isub (pc := 20) hc dX6_room_20 ?_
    exact z_iret (pc := 21) hc he rfl dX6_room_21 (by refine ⟨congrArg some ?_, rfl⟩; show _ = (if M 38 18 = 0 then 12 else M 38 19) - M 38 20; first | (rw [if_pos (by omega)]; done) | (rw [if_neg (by omega)]))
  · show zJW X 7 [(0, zR 38)] [] M
    refine z_bipush (pc := 7) hc 12 (by decide) dX6_room_7 ?_
    refine z_goto (pc := 9) (tgt := 16) hc (by decide) dX6_room_9 ?_
    refine z_ald (pc := 16) hc 0 rfl dX6_room_16 ?_
    refine fg_X6_185 (pc := 17) hc rfl rfl dX6_room_17 ?_
    refine z_isub (pc := 20) hc dX6_room_20 ?_
    exact z_iret (pc := 21) hc he rfl dX6_room_21 (by refine ⟨congrArg some ?_, rfl⟩; show _ = (if M 38 18 = 0 then 12 else M 38 19) - M 38 20; first | (rw [if_pos (by omega)]; done) | (rw [if_neg (by omega)]))

set_option maxRecDepth 100000 in
set_option maxHeartbeats 4000000 in
theorem ct_X6_isRowWhole (M : Mem) (hV : zxV (zmR M))  : zCt yX6_isRowWhole KX6_isRowWhole [zR 38] M (fun zv zM => zv = some (zbz (zxW (zmR M))) ∧ zM = M) := by
  obtain ⟨v1, v2, v3, v4, v5, v6, v7, v8⟩ := id hV
  obtain ⟨l1, l2, l3⟩ := zxV_L hV
  obtain ⟨n1, n2⟩ := zxN_bd hV
  dsimp only [zmR] at v1 v2 v3 v5 v6 v7 v8 l3
  refine z_met (by decide) rfl (Nat.le_of_ble_eq_true rfl) (fun X hc he => ?_)
  show zJW X 0 [(0, zR 38)] [] M
  refine z_ald (pc := 0) hc 0 rfl dX6_isRowWhole_0 ?_
  refine fg_X6_188 (pc := 1) hc rfl rfl dX6_isRowWhole_1 ?_
  refine z_ine (pc := 4) (tgt := 36) hc (by omega) (by decide) dX6_isRowWhole_4 (fun h4 => ?_) (fun h4 => ?_)
  · show zJW X 36 [(0, zR 38)] [] M
    refine z_iconst (pc := 36) hc 0 dX6_isRowWhole_36 ?_
    exact z_bret (pc := 37) (a := false) hc he rfl dX6_isRowWhole_37 (by first | (have hz : zxW (zmR M) = true := (by unfold zxW zxE; rw [decide_eq_true (show (zmR M).2.2.2 = 0 from by show M 38 21 = 0; omega), decide_eq_true (show 0 < (zmR M).2.1 ∧ ((zmR M).1 = 0 ∨ (zmR M).2.1 = (zmR M).2.2.1) from by show 0 < M 38 20 ∧ (M 38 18 = 0 ∨ M 38 20 = M 38 19); omega)] <;> rfl); exact ⟨by rw [hz] <;> rfl, rfl⟩) | (have hz : zxW (zmR M) = false := (by unfold zxW zxE; first | (rw [decide_eq_false (show ¬ (zmR M).2.2.2 = 0 by show ¬ M 38 21 = 0; omega), Bool.false_and]; done) | (rw [decide_eq_false (show ¬ (0 < (zmR M).2.1 ∧ ((zmR M).1 = 0 ∨ (zmR M).2.1 = (zmR M).2.2.1)) by show ¬ (0 < M 38 20 ∧ (M 38 18 = 0 ∨ M 38 20 = M 38 19)); omega), Bool.and_false])); exact ⟨by rw [hz] <;> rfl, rfl⟩))
  · show zJW X 7 [(0, zR 38)] [] M
    refine z_ald (pc := 7) hc 0 rfl dX6_isRowWhole_7 ?_
    refine fg_X6_185 (pc := 8) hc rfl rfl dX6_isRowWhole_8 ?_
    refine z_ile (pc := 11) (tgt := 36) hc (by omega) (by decide) dX6_isRowWhole_11 (fun h11 => ?_) (fun h11 => ?_)
    · show zJW X 36 [(0, zR 38)] [] M
      refine z_iconst (pc := 36) hc 0 dX6_isRowWhole_36 ?_
      exact z_bret (pc := 37) (a := false) hc he rfl dX6_isRowWhole_37 (by first | (have hz : zxW (zmR M) = true := (by unfold zxW zxE; rw [decide_eq_true (show (zmR M).2.2.2 = 0 from by show M 38 21 = 0; omega), decide_eq_true (show 0 < (zmR M).2.1 ∧ ((zmR M).1 = 0 ∨ (zmR M).2.1 = (zmR M).2.2.1) from by show 0 < M 38 20 ∧ (M 38 18 = 0 ∨ M 38 20 = M 38 19); omega)] <;> rfl); exact ⟨by rw [hz] <;> rfl, rfl⟩) | (have hz : zxW (zmR M) = false := (by unfold zxW zxE; first | (rw [decide_eq_false (show ¬ (zmR M).2.2.2 = 0 by show ¬ M 38 21 = 0; omega), Bool.false_and]; done) | (rw [decide_eq_false (show ¬ (0 < (zmR M).2.1 ∧ ((zmR M).1 = 0 ∨ (zmR M).2.1 = (zmR M).2.2.1)) by show ¬ (0 < M 38 20 ∧ (M 38 18 = 0 ∨ M 38 20 = M 38 19)); omega), Bool.and_false])); exact ⟨by rw [hz] <;> rfl, rfl⟩))
    · show zJW X 14 [(0, zR 38)] [] M
      refine z_ald (pc := 14) hc 0 rfl dX6_isRowWhole_14 ?_
      refine fg_X6_179 (pc := 15) hc rfl rfl dX6_isRowWhole_15 ?_
      refine z_ieq (pc := 18) (tgt := 32) hc (by omega) (by decide) dX6_isRowWhole_18 (fun h18 => ?_) (fun h18 => ?_)
      · show zJW X 32 [(0, zR 38)] [] M
        refine z_iconst (pc := 32) hc 1 dX6_isRowWhole_32 ?_
        refine z_goto (pc := 33) (tgt := 37) hc (by decide) dX6_isRowWhole_33 ?_
        exact z_bret (pc := 37) (a := true) hc he rfl dX6_isRowWhole_37 (by first | (have hz : zxW (zmR M) = true := (by unfold zxW zxE; rw [decide_eq_true (show (zmR M).2.2.2 = 0 from by show M 38 21 = 0; omega), decide_eq_true (show 0 < (zmR M).2.1 ∧ ((zmR M).1 = 0 ∨ (zmR M).2.1 = (zmR M).2.2.1) from by show 0 < M 38 20 ∧ (M 38 18 = 0 ∨ M 38 20 = M 38 19); omega)] <;> rfl); exact ⟨by rw [hz] <;> rfl, rfl⟩) | (have hz : zxW (zmR M) = false := (by unfold zxW zxE; first | (rw [decide_eq_false (show ¬ (zmR M).2.2.2 = 0 by show ¬ M 38 21 = 0; omega), Bool.false_and]; done) | (rw [decide_eq_false (show ¬ (0 < (zmR M).2.1 ∧ ((zmR M).1 = 0 ∨ (zmR M).2.1 = (zmR M).2.2.1)) by show ¬ (0 < M 38 20 ∧ (M 38 18 = 0 ∨ M 38 20 = M 38 19)); omega), Bool.and_false])); exact ⟨by rw [hz] <;> rfl, rfl⟩))
      · show zJW X 21 [(0, zR 38)] [] M
        refine z_ald (pc := 21) hc 0 rfl dX6_isRowWhole_21 ?_
        refine fg_X6_185 (pc := 22) hc rfl rfl dX6_isRowWhole_22 ?_
        refine z_ald (pc := 25) hc 0 rfl dX6_isRowWhole_25 ?_
        refine fg_X6_182 (pc := 26) hc rfl rfl dX6_isRowWhole_26 ?_
        refine z_cne (pc := 29) (tgt := 36) hc (by omega) (by decide) dX6_isRowWhole_29 (fun h29 => ?_) (fun h29 => ?_)
        · show zJW X 36 [(0, zR 38)] [] M
          refine z_iconst (pc := 36) hc 0 dX6_isRowWhole_36 ?_
          exact z_bret (pc := 37) (a := false) hc he rfl dX6_isRowWhole_37 (by first | (have hz : zxW (zmR M) = true := (by unfold zxW zxE; rw [decide_eq_true (show (zmR M).2.2.2 = 0 from by show M 38 21 = 0; omega), decide_eq_true (show 0 < (zmR M).2.1 ∧ ((zmR M).1 = 0 ∨ (zmR M).2.1 = (zmR M).2.2.1) from by show 0 < M 38 20 ∧ (M 38 18 = 0 ∨ M 38 20 = M 38 19); omega)] <;> rfl); exact ⟨by rw [hz] <;> rfl, rfl⟩) | (have hz : zxW (zmR M) = false := (by unfold zxW zxE; first | (rw [decide_eq_false (show ¬ (zmR M).2.2.2 = 0 by show ¬ M 38 21 = 0; omega), Bool.false_and]; done) | (rw [decide_eq_false (show ¬ (0 < (zmR M).2.1 ∧ ((zmR M).1 = 0 ∨ (zmR M).2.1 = (zmR M).2.2.1)) by show ¬ (0 < M 38 20 ∧ (M 38 18 = 0 ∨ M 38 20 = M 38 19)); omega), Bool.and_false])); exact ⟨by rw [hz] <;> rfl, rfl⟩))
        · show zJW X 32 [(0, zR 38)] [] M
          refine z_iconst (pc := 32) hc 1 dX6_isRowWhole_32 ?_
          refine z_goto (pc := 33) (tgt := 37) hc (by decide) dX6_isRowWhole_33 ?_
          exact z_bret (pc := 37) (a := true) hc he rfl dX6_isRowWhole_37 (by first | (have hz : zxW (zmR M) = true := (by unfold zxW zxE; rw [decide_eq_true (show (zmR M).2.2.2 = 0 from by show M 38 21 = 0; omega), decide_eq_true (show 0 < (zmR M).2.1 ∧ ((zmR M).1 = 0 ∨ (zmR M).2.1 = (zmR M).2.2.1) from by show 0 < M 38 20 ∧ (M 38 18 = 0 ∨ M 38 20 = M 38 19); omega)] <;> rfl); exact ⟨by rw [hz] <;> rfl, rfl⟩) | (have hz : zxW (zmR M) = false := (by unfold zxW zxE; first | (rw [decide_eq_false (show ¬ (zmR M).2.2.2 = 0 by show ¬ M 38 21 = 0; omega), Bool.false_and]; done) | (rw [decide_eq_false (show ¬ (0 < (zmR M).2.1 ∧ ((zmR M).1 = 0 ∨ (zmR M).2.1 = (zmR M).2.2.1)) by show ¬ (0 < M 38 20 ∧ (M 38 18 = 0 ∨ M 38 20 = M 38 19)); omega), Bool.and_false])); exact ⟨by rw [hz] <;> rfl, rfl⟩))

set_option maxRecDepth 100000 in
set_option maxHeartbeats 4000000 in
theorem ct_X6_endRow (M : Mem) (hV : M 38 18 < 100 ∧ -100 < M 38 18) : zCt yX6_endRow KX6_endRow [zR 38] M (fun zv zM => zv = none ∧ zM = rwR M) := by
  refine z_met (by decide) rfl (Nat.le_of_ble_eq_true rfl) (fun X hc he => ?_)
  show zJW X 0 [(0, zR 38)] [] M
  refine z_ald (pc := 0) hc 0 rfl dX6_endRow_0 ?_
  refine z_ald (pc := 1) hc 0 rfl dX6_endRow_1 ?_
  refine fg_X6_185 (pc := 2) hc rfl rfl dX6_endRow_2 ?_
  refine fp_X6_182 (pc := 5) hc rfl rfl dX6_endRow_5 ?_
  refine z_ald (pc := 8) hc 0 rfl dX6_endRow_8 ?_
  refine z_dup (pc := 9) hc rfl dX6_endRow_9 ?_
  refine fg_X6_179 (pc := 10) hc rfl rfl dX6_endRow_10 ?_
  rw [zup_off (by decide)]
  refine z_iconst (pc := 13) hc 1 dX6_endRow_13 ?_
  refine z_iadd (pc := 14) hc dX6_endRow_14 ?_
  refine fp_X6_179 (pc := 15) hc rfl rfl dX6_endRow_15 ?_
  refine z_ald (pc := 18) hc 0 rfl dX6_endRow_18 ?_
  refine z_iconst (pc := 19) hc 0 dX6_endRow_19 ?_
  refine fp_X6_185 (pc := 20) hc rfl rfl dX6_endRow_20 ?_
  exact z_vret (pc := 23) hc he rfl dX6_endRow_23 (⟨rfl, rfl⟩)

set_option maxRecDepth 100000 in
set_option maxHeartbeats 4000000 in
theorem ct_X6_readOne (M : Mem) (hV : zxV (zmR M)) (x : Int) (hx : 0 ≤ x ∧ x < 128) : zCt yX6_readOne KX6_readOne [zR 38, zI x] M (fun zv zM => zv = some (zbz (zxB x (zmR M))) ∧ zM = (if zxB x (zmR M) = true then zxR x M else M)) := by
  obtain ⟨v1, v2, v3, v4, v5, v6, v7, v8⟩ := id hV
  obtain ⟨l1, l2, l3⟩ := zxV_L hV
  obtain ⟨n1, n2⟩ := zxN_bd hV
  dsimp only [zmR] at v1 v2 v3 v5 v6 v7 v8 l3
  have hnn : (((zxN (zmR M)).toNat : Nat) : Int) = zxN (zmR M) := Int.toNat_of_nonneg (by omega)
  refine z_met (by decide) rfl (Nat.le_of_ble_eq_true rfl) (fun X hc he => ?_)
  show zJW X 0 [(0, zR 38), (1, zI x)] [] M
  refine z_ild (pc := 0) hc 1 rfl dX6_readOne_0 ?_
  refine z_bipush (pc := 1) hc 48 (by decide) dX6_readOne_1 ?_
  refine z_bipush (pc := 3) hc 57 (by decide) dX6_readOne_3 ?_
  refine kc_X6_61 (pc := 5) hc rfl (zfit0 (by decide) rfl rfl) (Nat.le_of_ble_eq_true rfl) (ct_X6_in M x 48 57 (by omega) (by omega) (by omega)) dX6_readOne_5 ?_
  refine z_beq (pc := 8) (tgt := 107) hc (by decide) dX6_readOne_8 (fun h8 => ?_) (fun h8 => ?_)
  · show zJW X 107 [(0, zR 38), (1, zI x)] [] M
    have h8 := of_decide_eq_false h8
    refine z_ild (pc := 107) hc 1 rfl dX6_readOne_107 ?_
    refine z_bipush (pc := 108) hc 46 (by decide) dX6_readOne_108 ?_
    refine z_ceq (pc := 110) (tgt := 119) hc (by omega) (by decide) dX6_readOne_110 (fun h110 => ?_) (fun h110 => ?_)
    · show zJW X 119 [(0, zR 38), (1, zI x)] [] M
      refine z_ald (pc := 119) hc 0 rfl dX6_readOne_119 ?_
      have hJ134 : zJW X 134 [(0, zR 38), (1, zI x)] [zI (zxN (zmR M))] M := by
        refine z_ist (pc := 134) (lv' := [(2, zI (zxN (zmR M))), (0, zR 38), (1, zI x)]) hc rfl (by decide) dX6_readOne_134 ?_
        refine z_ald (pc := 135) hc 1 rfl dX6_readOne_135 ?_
        refine fg_X6_188 (pc := 136) hc rfl rfl dX6_readOne_136 ?_
        refine z_iconst (pc := 139) hc 1 dX6_readOne_139 ?_
        refine z_ceq (pc := 140) (tgt := 151) hc (by omega) (by decide) dX6_readOne_140 (fun h140 => ?_) (fun h140 => ?_)
        · show zJW X 151 [(2, zI (zxN (zmR M))), (0, zR 38), (1, zI x)] [] M
          refine z_iconst (pc := 151) hc 0 dX6_readOne_151 ?_
          exact z_bret (pc := 152) (a := false) hc he rfl dX6_readOne_152 (by have hz : zxRR (zmR M) = false := decide_eq_false (fun q => by first | exact q.1 (by assumption) | (have := q.2; omega)); have hy : zxB x (zmR M) = false := (by unfold zxB; rw [if_neg (show ¬ x = 47 by omega), if_pos (show x = 46 ∨ x = 35 by omega)]; exact hz); exact ⟨by rw [hy] <;> rfl, by rw [hy] <;> rfl⟩)
        · show zJW X 143 [(2, zI (zxN (zmR M))), (0, zR 38), (1, zI x)] [] M
          refine z_ild (pc := 143) hc 0 rfl dX6_readOne_143 ?_
          refine z_ald (pc := 144) hc 1 rfl dX6_readOne_144 ?_
          refine kc_X6_191 (pc := 145) hc rfl (zfitX (by decide) rfl rfl) rfl (Nat.le_of_ble_eq_true rfl) (ct_X6_room M (by assumption) ) dX6_readOne_145 ?_
          refine z_cle (pc := 148) (tgt := 153) hc (by omega) (by decide) dX6_readOne_148 (fun h148 => ?_) (fun h148 => ?_)
          · show zJW X 153 [(2, zI (zxN (zmR M))), (0, zR 38), (1, zI x)] [] M
            have hz : zxRR (zmR M) = true := decide_eq_true ⟨h140, h148⟩
            have hq : zxN (zmR M) ≤ (if M 38 18 = 0 then 12 else M 38 19) - M 38 20 := h148
            refine z_iconst (pc := 153) hc 0 dX6_readOne_153 ?_
            refine z_ist (pc := 154) (lv' := [(3, zI 0), (2, zI (zxN (zmR M))), (0, zR 38), (1, zI x)]) hc rfl (by decide) dX6_readOne_154 ?_
            refine z_for ((zxN (zmR M)).toNat) (fun i155 => [(3, zI ((i155 : Nat) : Int)), (2, zI (zxN (zmR M))), (0, zR 38), (1, zI x)]) (fun i155 => (flR M (decide (x = 35)) ((i155 : Nat) : Int))) (by rfl) (by exact flR_0) ?_ (fun i155 hi155 ih155 => ?_)
            · show zJW X 155 [(3, zI ((((zxN (zmR M)).toNat) : Nat) : Int)), (2, zI (zxN (zmR M))), (0, zR 38), (1, zI x)] [] (flR M (decide (x = 35)) ((((zxN (zmR M)).toNat) : Nat) : Int))
              refine z_ild (pc := 155) hc 0 rfl dX6_readOne_155 ?_
              refine z_ild (pc := 156) hc 1 rfl dX6_readOne_156 ?_
              refine z_cge (pc := 157) (tgt := 204) hc (by omega) (by decide) dX6_readOne_157 (fun h157 => ?_) (fun h157 => ?_)
              · show zJW X 204 [(3, zI ((((zxN (zmR M)).toNat) : Nat) : Int)), (2, zI (zxN (zmR M))), (0, zR 38), (1, zI x)] [] (flR M (decide (x = 35)) ((((zxN (zmR M)).toNat) : Nat) : Int))
                refine z_ald (pc := 204) hc 2 rfl dX6_readOne_204 ?_
                refine z_iconst (pc := 205) hc 0 dX6_readOne_205 ?_
                refine fp_X6_188 (pc := 206) hc rfl rfl dX6_readOne_206 ?_
                refine z_iconst (pc := 209) hc 1 dX6_readOne_209 ?_
                exact z_bret (pc := 210) (a := true) hc he rfl dX6_readOne_210 (by have hy : zxB x (zmR M) = true := (by unfold zxB; rw [if_neg (show ¬ x = 47 by omega), if_pos (show x = 46 ∨ x = 35 by omega)]; exact hz); exact ⟨by rw [hy] <;> rfl, by rw [if_pos hy]; unfold zxR; rw [if_neg (show ¬ x = 47 by omega), if_pos (show x = 46 ∨ x = 35 by omega), hnn]; rfl⟩)
              · exfalso; omega
            · show zJW X 155 [(3, zI ((i155 : Nat) : Int)), (2, zI (zxN (zmR M))), (0, zR 38), (1, zI x)] [] (flR M (decide (x = 35)) ((i155 : Nat) : Int))
              refine z_ild (pc := 155) hc 0 rfl dX6_readOne_155 ?_
              refine z_ild (pc := 156) hc 1 rfl dX6_readOne_156 ?_
              refine z_cge (pc := 157) (tgt := 204) hc (by omega) (by decide) dX6_readOne_157 (fun h157 => ?_) (fun h157 => ?_)
              · exfalso; omega
              · show zJW X 160 [(3, zI ((i155 : Nat) : Int)), (2, zI (zxN (zmR M))), (0, zR 38), (1, zI x)] [] (flR M (decide (x = 35)) ((i155 : Nat) : Int))
                refine z_ald (pc := 160) hc 2 rfl dX6_readOne_160 ?_
                refine fg_X6_51 (pc := 161) hc rfl rfl dX6_readOne_161 ?_
                refine z_bipush (pc := 164) hc 12 (by decide) dX6_readOne_164 ?_
                refine z_ald (pc := 166) hc 2 rfl dX6_readOne_166 ?_
                refine fg_X6_179 (pc := 167) hc rfl rfl dX6_readOne_167 ?_
                rw [flR_f (by decide)]
                refine z_imul (pc := 170) hc dX6_readOne_170 ?_
                refine z_ald (pc := 171) hc 2 rfl dX6_readOne_171 ?_
                refine fg_X6_185 (pc := 172) hc rfl rfl dX6_readOne_172 ?_
                rw [flR_20]
                refine z_iadd (pc := 175) hc dX6_readOne_175 ?_
                have hq2 : M 38 20 + ((i155 : Nat) : Int) < 12 := by split at hq <;> omega
                have hJ187 : zJW X 187 [(3, zI ((i155 : Nat) : Int)), (2, zI (zxN (zmR M))), (0, zR 38), (1, zI x)] [zI (zbz (decide (x = 35))), zI ((12 * (M 38 18)) + (M 38 20 + ((i155 : Nat) : Int))), zR 52] (flR M (decide (x = 35)) ((i155 : Nat) : Int)) := by
                  refine z_iast (pc := 187) hc rfl rfl rfl (by decide) (by omega) dX6_readOne_187 ?_
                  refine z_ald (pc := 188) hc 2 rfl dX6_readOne_188 ?_
                  refine z_dup (pc := 189) hc rfl dX6_readOne_189 ?_
                  refine fg_X6_185 (pc := 190) hc rfl rfl dX6_readOne_190 ?_
                  rw [show (zup (flR M (decide (x = 35)) ((i155 : Nat) : Int)) 52 (12 * M 38 18 + (M 38 20 + ((i155 : Nat) : Int))) (zbz (decide (x = 35)))) 38 20 = M 38 20 + ((i155 : Nat) : Int) from (congrFun (zup_ne (by decide)) 20).trans flR_20]
                  refine z_iconst (pc := 193) hc 1 dX6_readOne_193 ?_
                  refine z_iadd (pc := 194) hc dX6_readOne_194 ?_
                  refine fp_X6_185 (pc := 195) hc rfl rfl dX6_readOne_195 ?_
                  refine z_iinc (pc := 198) (lv' := [(3, zI (((i155 : Nat) : Int) + 1)), (2, zI (zxN (zmR M))), (0, zR 38), (1, zI x)]) hc 0 rfl rfl (by decide) dX6_readOne_198 ?_
                  refine z_goto (pc := 201) (tgt := 155) hc (by decide) dX6_readOne_201 ?_
                  exact zJW_eq (by rfl) rfl (by exact flR_s i155) ih155
                refine z_ild (pc := 176) hc 3 rfl dX6_readOne_176 ?_
                refine z_bipush (pc := 177) hc 35 (by decide) dX6_readOne_177 ?_
                refine z_cne (pc := 179) (tgt := 186) hc (by omega) (by decide) dX6_readOne_179 (fun h179 => ?_) (fun h179 => ?_)
                · show zJW X 186 [(3, zI ((i155 : Nat) : Int)), (2, zI (zxN (zmR M))), (0, zR 38), (1, zI x)] [zI ((12 * (M 38 18)) + (M 38 20 + ((i155 : Nat) : Int))), zR 52] (flR M (decide (x = 35)) ((i155 : Nat) : Int))
                  refine z_iconst (pc := 186) hc 0 dX6_readOne_186 ?_
                  exact zJW_eq (by rfl) (by first | (rw [decide_eq_true (by omega)] <;> rfl) | (rw [decide_eq_false (by omega)] <;> rfl)) (by rfl) hJ187
                · show zJW X 182 [(3, zI ((i155 : Nat) : Int)), (2, zI (zxN (zmR M))), (0, zR 38), (1, zI x)] [zI ((12 * (M 38 18)) + (M 38 20 + ((i155 : Nat) : Int))), zR 52] (flR M (decide (x = 35)) ((i155 : Nat) : Int))
                  refine z_iconst (pc := 182) hc 1 dX6_readOne_182 ?_
                  refine z_goto (pc := 183) (tgt := 187) hc (by decide) dX6_readOne_183 ?_
                  exact zJW_eq (by rfl) (by first | (rw [decide_eq_true (by omega)] <;> rfl) | (rw [decide_eq_false (by omega)] <;> rfl)) (by rfl) hJ187
          · show zJW X 151 [(2, zI (zxN (zmR M))), (0, zR 38), (1, zI x)] [] M
            refine z_iconst (pc := 151) hc 0 dX6_readOne_151 ?_
            exact z_bret (pc := 152) (a := false) hc he rfl dX6_readOne_152 (by have hz : zxRR (zmR M) = false := decide_eq_false (fun q => by first | exact q.1 (by assumption) | (have := q.2; omega)); have hy : zxB x (zmR M) = false := (by unfold zxB; rw [if_neg (show ¬ x = 47 by omega), if_pos (show x = 46 ∨ x = 35 by omega)]; exact hz); exact ⟨by rw [hy] <;> rfl, by rw [hy] <;> rfl⟩)
      refine fg_X6_188 (pc := 120) hc rfl rfl dX6_readOne_120 ?_
      refine z_ine (pc := 123) (tgt := 130) hc (by omega) (by decide) dX6_readOne_123 (fun h123 => ?_) (fun h123 => ?_)
      · show zJW X 130 [(0, zR 38), (1, zI x)] [] M
        refine z_ald (pc := 130) hc 0 rfl dX6_readOne_130 ?_
        refine fg_X6_188 (pc := 131) hc rfl rfl dX6_readOne_131 ?_
        exact zJW_eq (by rfl) (by show _ = [zI (if M 38 21 = 0 then 1 else M 38 21)]; first | (rw [if_pos (by omega)]; done) | (rw [if_neg (by omega)])) (by rfl) hJ134
      · show zJW X 126 [(0, zR 38), (1, zI x)] [] M
        refine z_iconst (pc := 126) hc 1 dX6_readOne_126 ?_
        refine z_goto (pc := 127) (tgt := 134) hc (by decide) dX6_readOne_127 ?_
        exact zJW_eq (by rfl) (by show _ = [zI (if M 38 21 = 0 then 1 else M 38 21)]; first | (rw [if_pos (by omega)]; done) | (rw [if_neg (by omega)])) (by rfl) hJ134
    · show zJW X 113 [(0, zR 38), (1, zI x)] [] M
      refine z_ild (pc := 113) hc 1 rfl dX6_readOne_113 ?_
      refine z_bipush (pc := 114) hc 35 (by decide) dX6_readOne_114 ?_
      refine z_cne (pc := 116) (tgt := 211) hc (by omega) (by decide) dX6_readOne_116 (fun h116 => ?_) (fun h116 => ?_)
      · show zJW X 211 [(0, zR 38), (1, zI x)] [] M
        refine z_ild (pc := 211) hc 1 rfl dX6_readOne_211 ?_
        refine z_bipush (pc := 212) hc 47 (by decide) dX6_readOne_212 ?_
        refine z_cne (pc := 214) (tgt := 237) hc (by omega) (by decide) dX6_readOne_214 (fun h214 => ?_) (fun h214 => ?_)
        · show zJW X 237 [(0, zR 38), (1, zI x)] [] M
          refine z_iconst (pc := 237) hc 0 dX6_readOne_237 ?_
          refine z_ist (pc := 238) (lv' := [(2, zI 0), (0, zR 38), (1, zI x)]) hc rfl (by decide) dX6_readOne_238 ?_
          refine z_ild (pc := 239) hc 0 rfl dX6_readOne_239 ?_
          refine z_ieq (pc := 240) (tgt := 247) hc (by omega) (by decide) dX6_readOne_240 (fun h240 => ?_) (fun h240 => ?_)
          · show zJW X 247 [(2, zI 0), (0, zR 38), (1, zI x)] [] M
            refine z_ild (pc := 247) hc 0 rfl dX6_readOne_247 ?_
            exact z_bret (pc := 248) (a := false) hc he rfl dX6_readOne_248 (by first | (have hy : zxB x (zmR M) = true := (by unfold zxB zxRB; unfold zxW at h221; rw [if_pos (show x = 47 by omega), h221, decide_eq_true (show (zmR M).1 < 11 from by show M 38 18 < 11; omega)] <;> rfl); exact ⟨by rw [hy] <;> rfl, by rw [if_pos hy]; unfold zxR; rw [if_pos (show x = 47 by omega)]⟩) | (have hy := (show zxB x (zmR M) = false from by unfold zxB zxRB; unfold zxW at h221; first | (rw [if_pos (show x = 47 by omega), h221, Bool.false_and]; done) | (rw [if_pos (show x = 47 by omega), decide_eq_false (show ¬ (zmR M).1 < 11 by show ¬ M 38 18 < 11; omega), Bool.and_false])); exact ⟨by rw [hy] <;> rfl, by rw [hy] <;> rfl⟩) | (have hy : zxB x (zmR M) = false := (by unfold zxB; rw [if_neg (show ¬ x = 47 by omega), if_neg (show ¬ (x = 46 ∨ x = 35) by omega), decide_eq_false (by omega)] <;> rfl); exact ⟨by rw [hy] <;> rfl, by rw [hy] <;> rfl⟩))
          · exfalso; omega
        · show zJW X 217 [(0, zR 38), (1, zI x)] [] M
          refine z_ald (pc := 217) hc 0 rfl dX6_readOne_217 ?_
          refine kc_X6_194 (pc := 218) hc rfl (zfitX (by decide) rfl rfl) rfl (Nat.le_of_ble_eq_true rfl) (ct_X6_isRowWhole M (by assumption) ) dX6_readOne_218 ?_
          refine z_beq (pc := 221) (tgt := 237) hc (by decide) dX6_readOne_221 (fun h221 => ?_) (fun h221 => ?_)
          · show zJW X 237 [(0, zR 38), (1, zI x)] [] M
            refine z_iconst (pc := 237) hc 0 dX6_readOne_237 ?_
            refine z_ist (pc := 238) (lv' := [(2, zI 0), (0, zR 38), (1, zI x)]) hc rfl (by decide) dX6_readOne_238 ?_
            refine z_ild (pc := 239) hc 0 rfl dX6_readOne_239 ?_
            refine z_ieq (pc := 240) (tgt := 247) hc (by omega) (by decide) dX6_readOne_240 (fun h240 => ?_) (fun h240 => ?_)
            · show zJW X 247 [(2, zI 0), (0, zR 38), (1, zI x)] [] M
              refine z_ild (pc := 247) hc 0 rfl dX6_readOne_247 ?_
              exact z_bret (pc := 248) (a := false) hc he rfl dX6_readOne_248 (by first | (have hy : zxB x (zmR M) = true := (by unfold zxB zxRB; unfold zxW at h221; rw [if_pos (show x = 47 by omega), h221, decide_eq_true (show (zmR M).1 < 11 from by show M 38 18 < 11; omega)] <;> rfl); exact ⟨by rw [hy] <;> rfl, by rw [if_pos hy]; unfold zxR; rw [if_pos (show x = 47 by omega)]⟩) | (have hy := (show zxB x (zmR M) = false from by unfold zxB zxRB; unfold zxW at h221; first | (rw [if_pos (show x = 47 by omega), h221, Bool.false_and]; done) | (rw [if_pos (show x = 47 by omega), decide_eq_false (show ¬ (zmR M).1 < 11 by show ¬ M 38 18 < 11; omega), Bool.and_false])); exact ⟨by rw [hy] <;> rfl, by rw [hy] <;> rfl⟩) | (have hy : zxB x (zmR M) = false := (by unfold zxB; rw [if_neg (show ¬ x = 47 by omega), if_neg (show ¬ (x = 46 ∨ x = 35) by omega), decide_eq_false (by omega)] <;> rfl); exact ⟨by rw [hy] <;> rfl, by rw [hy] <;> rfl⟩))
            · exfalso; omega
          · show zJW X 224 [(0, zR 38), (1, zI x)] [] M
            refine z_ald (pc := 224) hc 0 rfl dX6_readOne_224 ?_
            refine fg_X6_179 (pc := 225) hc rfl rfl dX6_readOne_225 ?_
            refine z_bipush (pc := 228) hc 11 (by decide) dX6_readOne_228 ?_
            refine z_cge (pc := 230) (tgt := 237) hc (by omega) (by decide) dX6_readOne_230 (fun h230 => ?_) (fun h230 => ?_)
            · show zJW X 237 [(0, zR 38), (1, zI x)] [] M
              refine z_iconst (pc := 237) hc 0 dX6_readOne_237 ?_
              refine z_ist (pc := 238) (lv' := [(2, zI 0), (0, zR 38), (1, zI x)]) hc rfl (by decide) dX6_readOne_238 ?_
              refine z_ild (pc := 239) hc 0 rfl dX6_readOne_239 ?_
              refine z_ieq (pc := 240) (tgt := 247) hc (by omega) (by decide) dX6_readOne_240 (fun h240 => ?_) (fun h240 => ?_)
              · show zJW X 247 [(2, zI 0), (0, zR 38), (1, zI x)] [] M
                refine z_ild (pc := 247) hc 0 rfl dX6_readOne_247 ?_
                exact z_bret (pc := 248) (a := false) hc he rfl dX6_readOne_248 (by first | (have hy : zxB x (zmR M) = true := (by unfold zxB zxRB; unfold zxW at h221; rw [if_pos (show x = 47 by omega), h221, decide_eq_true (show (zmR M).1 < 11 from by show M 38 18 < 11; omega)] <;> rfl); exact ⟨by rw [hy] <;> rfl, by rw [if_pos hy]; unfold zxR; rw [if_pos (show x = 47 by omega)]⟩) | (have hy := (show zxB x (zmR M) = false from by unfold zxB zxRB; unfold zxW at h221; first | (rw [if_pos (show x = 47 by omega), h221, Bool.false_and]; done) | (rw [if_pos (show x = 47 by omega), decide_eq_false (show ¬ (zmR M).1 < 11 by show ¬ M 38 18 < 11; omega), Bool.and_false])); exact ⟨by rw [hy] <;> rfl, by rw [hy] <;> rfl⟩) | (have hy : zxB x (zmR M) = false := (by unfold zxB; rw [if_neg (show ¬ x = 47 by omega), if_neg (show ¬ (x = 46 ∨ x = 35) by omega), decide_eq_false (by omega)] <;> rfl); exact ⟨by rw [hy] <;> rfl, by rw [hy] <;> rfl⟩))
              · exfalso; omega
            · show zJW X 233 [(0, zR 38), (1, zI x)] [] M
              refine z_iconst (pc := 233) hc 1 dX6_readOne_233 ?_
              refine z_goto (pc := 234) (tgt := 238) hc (by decide) dX6_readOne_234 ?_
              refine z_ist (pc := 238) (lv' := [(2, zI 1), (0, zR 38), (1, zI x)]) hc rfl (by decide) dX6_readOne_238 ?_
              refine z_ild (pc := 239) hc 0 rfl dX6_readOne_239 ?_
              refine z_ieq (pc := 240) (tgt := 247) hc (by omega) (by decide) dX6_readOne_240 (fun h240 => ?_) (fun h240 => ?_)
              · exfalso; omega
              · show zJW X 243 [(2, zI 1), (0, zR 38), (1, zI x)] [] M
                refine z_ald (pc := 243) hc 1 rfl dX6_readOne_243 ?_
                refine kc_X6_197 (pc := 244) hc rfl (zfitX (by decide) rfl rfl) rfl (Nat.le_of_ble_eq_true rfl) (ct_X6_endRow M (by first | assumption | omega)) dX6_readOne_244 ?_
                refine z_ild (pc := 247) hc 0 rfl dX6_readOne_247 ?_
                exact z_bret (pc := 248) (a := true) hc he rfl dX6_readOne_248 (by first | (have hy : zxB x (zmR M) = true := (by unfold zxB zxRB; unfold zxW at h221; rw [if_pos (show x = 47 by omega), h221, decide_eq_true (show (zmR M).1 < 11 from by show M 38 18 < 11; omega)] <;> rfl); exact ⟨by rw [hy] <;> rfl, by rw [if_pos hy]; unfold zxR; rw [if_pos (show x = 47 by omega)]⟩) | (have hy := (show zxB x (zmR M) = false from by unfold zxB zxRB; unfold zxW at h221; first | (rw [if_pos (show x = 47 by omega), h221, Bool.false_and]; done) | (rw [if_pos (show x = 47 by omega), decide_eq_false (show ¬ (zmR M).1 < 11 by show ¬ M 38 18 < 11; omega), Bool.and_false])); exact ⟨by rw [hy] <;> rfl, by rw [hy] <;> rfl⟩) | (have hy : zxB x (zmR M) = false := (by unfold zxB; rw [if_neg (show ¬ x = 47 by omega), if_neg (show ¬ (x = 46 ∨ x = 35) by omega), decide_eq_false (by omega)] <;> rfl); exact ⟨by rw [hy] <;> rfl, by rw [hy] <;> rfl⟩))
      · show zJW X 119 [(0, zR 38), (1, zI x)] [] M
        refine z_ald (pc := 119) hc 0 rfl dX6_readOne_119 ?_
        have hJ134 : zJW X 134 [(0, zR 38), (1, zI x)] [zI (zxN (zmR M))] M := by
          refine z_ist (pc := 134) (lv' := [(2, zI (zxN (zmR M))), (0, zR 38), (1, zI x)]) hc rfl (by decide) dX6_readOne_134 ?_
          refine z_ald (pc := 135) hc 1 rfl dX6_readOne_135 ?_
          refine fg_X6_188 (pc := 136) hc rfl rfl dX6_readOne_136 ?_
          refine z_iconst (pc := 139) hc 1 dX6_readOne_139 ?_
          refine z_ceq (pc := 140) (tgt := 151) hc (by omega) (by decide) dX6_readOne_140 (fun h140 => ?_) (fun h140 => ?_)
          · show zJW X 151 [(2, zI (zxN (zmR M))), (0, zR 38), (1, zI x)] [] M
            refine z_iconst (pc := 151) hc 0 dX6_readOne_151 ?_
            exact z_bret (pc := 152) (a := false) hc he rfl dX6_readOne_152 (by have hz : zxRR (zmR M) = false := decide_eq_false (fun q => by first | exact q.1 (by assumption) | (have := q.2; omega)); have hy : zxB x (zmR M) = false := (by unfold zxB; rw [if_neg (show ¬ x = 47 by omega), if_pos (show x = 46 ∨ x = 35 by omega)]; exact hz); exact ⟨by rw [hy] <;> rfl, by rw [hy] <;> rfl⟩)
          · show zJW X 143 [(2, zI (zxN (zmR M))), (0, zR 38), (1, zI x)] [] M
            refine z_ild (pc := 143) hc 0 rfl dX6_readOne_143 ?_
            refine z_ald (pc := 144) hc 1 rfl dX6_readOne_144 ?_
            refine kc_X6_191 (pc := 145) hc rfl (zfitX (by decide) rfl rfl) rfl (Nat.le_of_ble_eq_true rfl) (ct_X6_room M (by assumption) ) dX6_readOne_145 ?_
            refine z_cle (pc := 148) (tgt := 153) hc (by omega) (by decide) dX6_readOne_148 (fun h148 => ?_) (fun h148 => ?_)
            · show zJW X 153 [(2, zI (zxN (zmR M))), (0, zR 38), (1, zI x)] [] M
              have hz : zxRR (zmR M) = true := decide_eq_true ⟨h140, h148⟩
              have hq : zxN (zmR M) ≤ (if M 38 18 = 0 then 12 else M 38 19) - M 38 20 := h148
              refine z_iconst (pc := 153) hc 0 dX6_readOne_153 ?_
              refine z_ist (pc := 154) (lv' := [(3, zI 0), (2, zI (zxN (zmR M))), (0, zR 38), (1, zI x)]) hc rfl (by decide) dX6_readOne_154 ?_
              refine z_for ((zxN (zmR M)).toNat) (fun i155 => [(3, zI ((i155 : Nat) : Int)), (2, zI (zxN (zmR M))), (0, zR 38), (1, zI x)]) (fun i155 => (flR M (decide (x = 35)) ((i155 : Nat) : Int))) (by rfl) (by exact flR_0) ?_ (fun i155 hi155 ih155 => ?_)
              · show zJW X 155 [(3, zI ((((zxN (zmR M)).toNat) : Nat) : Int)), (2, zI (zxN (zmR M))), (0, zR 38), (1, zI x)] [] (flR M (decide (x = 35)) ((((zxN (zmR M)).toNat) : Nat) : Int))
                refine z_ild (pc := 155) hc 0 rfl dX6_readOne_155 ?_
                refine z_ild (pc := 156) hc 1 rfl dX6_readOne_156 ?_
                refine z_cge (pc := 157) (tgt := 204) hc (by omega) (by decide) dX6_readOne_157 (fun h157 => ?_) (fun h157 => ?_)
                · show zJW X 204 [(3, zI ((((zxN (zmR M)).toNat) : Nat) : Int)), (2, zI (zxN (zmR M))), (0, zR 38), (1, zI x)] [] (flR M (decide (x = 35)) ((((zxN (zmR M)).toNat) : Nat) : Int))
                  refine z_ald (pc := 204) hc 2 rfl dX6_readOne_204 ?_
                  refine z_iconst (pc := 205) hc 0 dX6_readOne_205 ?_
                  refine fp_X6_188 (pc := 206) hc rfl rfl dX6_readOne_206 ?_
                  refine z_iconst (pc := 209) hc 1 dX6_readOne_209 ?_
                  exact z_bret (pc := 210) (a := true) hc he rfl dX6_readOne_210 (by have hy : zxB x (zmR M) = true := (by unfold zxB; rw [if_neg (show ¬ x = 47 by omega), if_pos (show x = 46 ∨ x = 35 by omega)]; exact hz); exact ⟨by rw [hy] <;> rfl, by rw [if_pos hy]; unfold zxR; rw [if_neg (show ¬ x = 47 by omega), if_pos (show x = 46 ∨ x = 35 by omega), hnn]; rfl⟩)
                · exfalso; omega
              · show zJW X 155 [(3, zI ((i155 : Nat) : Int)), (2, zI (zxN (zmR M))), (0, zR 38), (1, zI x)] [] (flR M (decide (x = 35)) ((i155 : Nat) : Int))
                refine z_ild (pc := 155) hc 0 rfl dX6_readOne_155 ?_
                refine z_ild (pc := 156) hc 1 rfl dX6_readOne_156 ?_
                refine z_cge (pc := 157) (tgt := 204) hc (by omega) (by decide) dX6_readOne_157 (fun h157 => ?_) (fun h157 => ?_)
                · exfalso; omega
                · show zJW X 160 [(3, zI ((i155 : Nat) : Int)), (2, zI (zxN (zmR M))), (0, zR 38), (1, zI x)] [] (flR M (decide (x = 35)) ((i155 : Nat) : Int))
                  refine z_ald (pc := 160) hc 2 rfl dX6_readOne_160 ?_
                  refine fg_X6_51 (pc := 161) hc rfl rfl dX6_readOne_161 ?_
                  refine z_bipush (pc := 164) hc 12 (by decide) dX6_readOne_164 ?_
                  refine z_ald (pc := 166) hc 2 rfl dX6_readOne_166 ?_
                  refine fg_X6_179 (pc := 167) hc rfl rfl dX6_readOne_167 ?_
                  rw [flR_f (by decide)]
                  refine z_imul (pc := 170) hc dX6_readOne_170 ?_
                  refine z_ald (pc := 171) hc 2 rfl dX6_readOne_171 ?_
                  refine fg_X6_185 (pc := 172) hc rfl rfl dX6_readOne_172 ?_
                  rw [flR_20]
                  refine z_iadd (pc := 175) hc dX6_readOne_175 ?_
                  have hq2 : M 38 20 + ((i155 : Nat) : Int) < 12 := by split at hq <;> omega
                  have hJ187 : zJW X 187 [(3, zI ((i155 : Nat) : Int)), (2, zI (zxN (zmR M))), (0, zR 38), (1, zI x)] [zI (zbz (decide (x = 35))), zI ((12 * (M 38 18)) + (M 38 20 + ((i155 : Nat) : Int))), zR 52] (flR M (decide (x = 35)) ((i155 : Nat) : Int)) := by
                    refine z_iast (pc := 187) hc rfl rfl rfl (by decide) (by omega) dX6_readOne_187 ?_
                    refine z_ald (pc := 188) hc 2 rfl dX6_readOne_188 ?_
                    refine z_dup (pc := 189) hc rfl dX6_readOne_189 ?_
                    refine fg_X6_185 (pc := 190) hc rfl rfl dX6_readOne_190 ?_
                    rw [show (zup (flR M (decide (x = 35)) ((i155 : Nat) : Int)) 52 (12 * M 38 18 + (M 38 20 + ((i155 : Nat) : Int))) (zbz (decide (x = 35)))) 38 20 = M 38 20 + ((i155 : Nat) : Int) from (congrFun (zup_ne (by decide)) 20).trans flR_20]
                    refine z_iconst (pc := 193) hc 1 dX6_readOne_193 ?_
                    refine z_iadd (pc := 194) hc dX6_readOne_194 ?_
                    refine fp_X6_185 (pc := 195) hc rfl rfl dX6_readOne_195 ?_
                    refine z_iinc (pc := 198) (lv' := [(3, zI (((i155 : Nat) : Int) + 1)), (2, zI (zxN (zmR M))), (0, zR 38), (1, zI x)]) hc 0 rfl rfl (by decide) dX6_readOne_198 ?_
                    refine z_goto (pc := 201) (tgt := 155) hc (by decide) dX6_readOne_201 ?_
                    exact zJW_eq (by rfl) rfl (by exact flR_s i155) ih155
                  refine z_ild (pc := 176) hc 3 rfl dX6_readOne_176 ?_
                  refine z_bipush (pc := 177) hc 35 (by decide) dX6_readOne_177 ?_
                  refine z_cne (pc := 179) (tgt := 186) hc (by omega) (by decide) dX6_readOne_179 (fun h179 => ?_) (fun h179 => ?_)
                  · show zJW X 186 [(3, zI ((i155 : Nat) : Int)), (2, zI (zxN (zmR M))), (0, zR 38), (1, zI x)] [zI ((12 * (M 38 18)) + (M 38 20 + ((i155 : Nat) : Int))), zR 52] (flR M (decide (x = 35)) ((i155 : Nat) : Int))
                    refine z_iconst (pc := 186) hc 0 dX6_readOne_186 ?_
                    exact zJW_eq (by rfl) (by first | (rw [decide_eq_true (by omega)] <;> rfl) | (rw [decide_eq_false (by omega)] <;> rfl)) (by rfl) hJ187
                  · show zJW X 182 [(3, zI ((i155 : Nat) : Int)), (2, zI (zxN (zmR M))), (0, zR 38), (1, zI x)] [zI ((12 * (M 38 18)) + (M 38 20 + ((i155 : Nat) : Int))), zR 52] (flR M (decide (x = 35)) ((i155 : Nat) : Int))
                    refine z_iconst (pc := 182) hc 1 dX6_readOne_182 ?_
                    refine z_goto (pc := 183) (tgt := 187) hc (by decide) dX6_readOne_183 ?_
                    exact zJW_eq (by rfl) (by first | (rw [decide_eq_true (by omega)] <;> rfl) | (rw [decide_eq_false (by omega)] <;> rfl)) (by rfl) hJ187
            · show zJW X 151 [(2, zI (zxN (zmR M))), (0, zR 38), (1, zI x)] [] M
              refine z_iconst (pc := 151) hc 0 dX6_readOne_151 ?_
              exact z_bret (pc := 152) (a := false) hc he rfl dX6_readOne_152 (by have hz : zxRR (zmR M) = false := decide_eq_false (fun q => by first | exact q.1 (by assumption) | (have := q.2; omega)); have hy : zxB x (zmR M) = false := (by unfold zxB; rw [if_neg (show ¬ x = 47 by omega), if_pos (show x = 46 ∨ x = 35 by omega)]; exact hz); exact ⟨by rw [hy] <;> rfl, by rw [hy] <;> rfl⟩)
        refine fg_X6_188 (pc := 120) hc rfl rfl dX6_readOne_120 ?_
        refine z_ine (pc := 123) (tgt := 130) hc (by omega) (by decide) dX6_readOne_123 (fun h123 => ?_) (fun h123 => ?_)
        · show zJW X 130 [(0, zR 38), (1, zI x)] [] M
          refine z_ald (pc := 130) hc 0 rfl dX6_readOne_130 ?_
          refine fg_X6_188 (pc := 131) hc rfl rfl dX6_readOne_131 ?_
          exact zJW_eq (by rfl) (by show _ = [zI (if M 38 21 = 0 then 1 else M 38 21)]; first | (rw [if_pos (by omega)]; done) | (rw [if_neg (by omega)])) (by rfl) hJ134
        · show zJW X 126 [(0, zR 38), (1, zI x)] [] M
          refine z_iconst (pc := 126) hc 1 dX6_readOne_126 ?_
          refine z_goto (pc := 127) (tgt := 134) hc (by decide) dX6_readOne_127 ?_
          exact zJW_eq (by rfl) (by show _ = [zI (if M 38 21 = 0 then 1 else M 38 21)]; first | (rw [if_pos (by omega)]; done) | (rw [if_neg (by omega)])) (by rfl) hJ134
  · show zJW X 11 [(0, zR 38), (1, zI x)] [] M
    have h8 := of_decide_eq_true h8
    refine z_bipush (pc := 11) hc 10 (by decide) dX6_readOne_11 ?_
    refine z_ald (pc := 13) hc 0 rfl dX6_readOne_13 ?_
    refine fg_X6_188 (pc := 14) hc rfl rfl dX6_readOne_14 ?_
    refine z_imul (pc := 17) hc dX6_readOne_17 ?_
    refine z_ild (pc := 18) hc 1 rfl dX6_readOne_18 ?_
    refine z_iadd (pc := 19) hc dX6_readOne_19 ?_
    refine z_bipush (pc := 20) hc 48 (by decide) dX6_readOne_20 ?_
    refine z_isub (pc := 22) hc dX6_readOne_22 ?_
    refine z_ist (pc := 23) (lv' := [(2, zI (((10 * (M 38 21)) + x) - 48)), (0, zR 38), (1, zI x)]) hc rfl (by decide) dX6_readOne_23 ?_
    have hJ88 : zJW X 88 [(2, zI (((10 * (M 38 21)) + x) - 48)), (0, zR 38), (1, zI x)] [zI (zbz (zxD (x - 48) (zmR M)))] M := by
      refine z_ist (pc := 88) (lv' := [(3, zI (zbz (zxD (x - 48) (zmR M)))), (2, zI (((10 * (M 38 21)) + x) - 48)), (0, zR 38), (1, zI x)]) hc rfl (by decide) dX6_readOne_88 ?_
      refine z_ald (pc := 89) hc 2 rfl dX6_readOne_89 ?_
      refine z_ild (pc := 90) hc 0 rfl dX6_readOne_90 ?_
      refine z_beq (pc := 91) (tgt := 98) hc (by decide) dX6_readOne_91 (fun h91 => ?_) (fun h91 => ?_)
      · show zJW X 98 [(3, zI (zbz (zxD (x - 48) (zmR M)))), (2, zI (((10 * (M 38 21)) + x) - 48)), (0, zR 38), (1, zI x)] [zR 38] M
        refine z_ald (pc := 98) hc 2 rfl dX6_readOne_98 ?_
        refine fg_X6_188 (pc := 99) hc rfl rfl dX6_readOne_99 ?_
        refine fp_X6_188 (pc := 102) hc rfl rfl dX6_readOne_102 ?_
        refine z_ild (pc := 105) hc 0 rfl dX6_readOne_105 ?_
        exact z_bret (pc := 106) (a := (zxD (x - 48) (zmR M))) hc he rfl dX6_readOne_106 (by first | (have hz : zxB x (zmR M) = true := (by unfold zxB; rw [if_neg (show ¬ x = 47 by omega), if_neg (show ¬ (x = 46 ∨ x = 35) by omega), h91, decide_eq_true (by omega)] <;> rfl); exact ⟨by rw [hz, h91], by rw [if_pos hz]; unfold zxR; rw [if_neg (show ¬ x = 47 by omega), if_neg (show ¬ (x = 46 ∨ x = 35) by omega)]; show zup M 38 21 _ = zup M 38 21 _; congr 1; omega⟩) | (have hz : zxB x (zmR M) = false := (by unfold zxB; rw [if_neg (show ¬ x = 47 by omega), if_neg (show ¬ (x = 46 ∨ x = 35) by omega), h91, Bool.and_false]); exact ⟨by rw [hz, h91], by rw [if_neg (by rw [hz]; decide)]; exact zup_self⟩))
      · show zJW X 94 [(3, zI (zbz (zxD (x - 48) (zmR M)))), (2, zI (((10 * (M 38 21)) + x) - 48)), (0, zR 38), (1, zI x)] [zR 38] M
        refine z_ild (pc := 94) hc 1 rfl dX6_readOne_94 ?_
        refine z_goto (pc := 95) (tgt := 102) hc (by decide) dX6_readOne_95 ?_
        refine fp_X6_188 (pc := 102) hc rfl rfl dX6_readOne_102 ?_
        refine z_ild (pc := 105) hc 0 rfl dX6_readOne_105 ?_
        exact z_bret (pc := 106) (a := (zxD (x - 48) (zmR M))) hc he rfl dX6_readOne_106 (by first | (have hz : zxB x (zmR M) = true := (by unfold zxB; rw [if_neg (show ¬ x = 47 by omega), if_neg (show ¬ (x = 46 ∨ x = 35) by omega), h91, decide_eq_true (by omega)] <;> rfl); exact ⟨by rw [hz, h91], by rw [if_pos hz]; unfold zxR; rw [if_neg (show ¬ x = 47 by omega), if_neg (show ¬ (x = 46 ∨ x = 35) by omega)]; show zup M 38 21 _ = zup M 38 21 _; congr 1; omega⟩) | (have hz : zxB x (zmR M) = false := (by unfold zxB; rw [if_neg (show ¬ x = 47 by omega), if_neg (show ¬ (x = 46 ∨ x = 35) by omega), h91, Bool.and_false]); exact ⟨by rw [hz, h91], by rw [if_neg (by rw [hz]; decide)]; exact zup_self⟩))
    refine z_ald (pc := 24) hc 1 rfl dX6_readOne_24 ?_
    refine fg_X6_188 (pc := 25) hc rfl rfl dX6_readOne_25 ?_
    refine z_ine (pc := 28) (tgt := 61) hc (by omega) (by decide) dX6_readOne_28 (fun h28 => ?_) (fun h28 => ?_)
    · show zJW X 61 [(2, zI (((10 * (M 38 21)) + x) - 48)), (0, zR 38), (1, zI x)] [] M
      refine z_ald (pc := 61) hc 1 rfl dX6_readOne_61 ?_
      refine fg_X6_188 (pc := 62) hc rfl rfl dX6_readOne_62 ?_
      refine z_iconst (pc := 65) hc 1 dX6_readOne_65 ?_
      refine z_cne (pc := 66) (tgt := 87) hc (by omega) (by decide) dX6_readOne_66 (fun h66 => ?_) (fun h66 => ?_)
      · show zJW X 87 [(2, zI (((10 * (M 38 21)) + x) - 48)), (0, zR 38), (1, zI x)] [] M
        refine z_iconst (pc := 87) hc 0 dX6_readOne_87 ?_
        exact zJW_eq (by rfl) (by first | (rw [show zxD (x - 48) (zmR M) = true from decide_eq_true (show M 38 21 ≤ 1 ∧ ¬ (M 38 21 = 0 ∧ x - 48 = 0) ∧ (if 10 * M 38 21 + (x - 48) = 1 then 10 else 10 * M 38 21 + (x - 48)) ≤ zxL (zmR M) from ⟨by omega, by omega, by split <;> omega⟩)] <;> rfl) | (rw [show zxD (x - 48) (zmR M) = false from decide_eq_false (show ¬ (M 38 21 ≤ 1 ∧ ¬ (M 38 21 = 0 ∧ x - 48 = 0) ∧ (if 10 * M 38 21 + (x - 48) = 1 then 10 else 10 * M 38 21 + (x - 48)) ≤ zxL (zmR M)) from by rintro ⟨q1, q2, q3⟩; split at q3 <;> omega)] <;> rfl)) (by rfl) hJ88
      · show zJW X 69 [(2, zI (((10 * (M 38 21)) + x) - 48)), (0, zR 38), (1, zI x)] [] M
        refine z_ild (pc := 69) hc 0 rfl dX6_readOne_69 ?_
        refine z_bipush (pc := 70) hc 12 (by decide) dX6_readOne_70 ?_
        refine z_cgt (pc := 72) (tgt := 87) hc (by omega) (by decide) dX6_readOne_72 (fun h72 => ?_) (fun h72 => ?_)
        · show zJW X 87 [(2, zI (((10 * (M 38 21)) + x) - 48)), (0, zR 38), (1, zI x)] [] M
          refine z_iconst (pc := 87) hc 0 dX6_readOne_87 ?_
          exact zJW_eq (by rfl) (by first | (rw [show zxD (x - 48) (zmR M) = true from decide_eq_true (show M 38 21 ≤ 1 ∧ ¬ (M 38 21 = 0 ∧ x - 48 = 0) ∧ (if 10 * M 38 21 + (x - 48) = 1 then 10 else 10 * M 38 21 + (x - 48)) ≤ zxL (zmR M) from ⟨by omega, by omega, by split <;> omega⟩)] <;> rfl) | (rw [show zxD (x - 48) (zmR M) = false from decide_eq_false (show ¬ (M 38 21 ≤ 1 ∧ ¬ (M 38 21 = 0 ∧ x - 48 = 0) ∧ (if 10 * M 38 21 + (x - 48) = 1 then 10 else 10 * M 38 21 + (x - 48)) ≤ zxL (zmR M)) from by rintro ⟨q1, q2, q3⟩; split at q3 <;> omega)] <;> rfl)) (by rfl) hJ88
        · show zJW X 75 [(2, zI (((10 * (M 38 21)) + x) - 48)), (0, zR 38), (1, zI x)] [] M
          refine z_ild (pc := 75) hc 0 rfl dX6_readOne_75 ?_
          refine z_ald (pc := 76) hc 1 rfl dX6_readOne_76 ?_
          refine kc_X6_191 (pc := 77) hc rfl (zfitX (by decide) rfl rfl) rfl (Nat.le_of_ble_eq_true rfl) (ct_X6_room M (by assumption) ) dX6_readOne_77 ?_
          refine z_cgt (pc := 80) (tgt := 87) hc (by omega) (by decide) dX6_readOne_80 (fun h80 => ?_) (fun h80 => ?_)
          · show zJW X 87 [(2, zI (((10 * (M 38 21)) + x) - 48)), (0, zR 38), (1, zI x)] [] M
            refine z_iconst (pc := 87) hc 0 dX6_readOne_87 ?_
            exact zJW_eq (by rfl) (by first | (rw [show zxD (x - 48) (zmR M) = true from decide_eq_true (show M 38 21 ≤ 1 ∧ ¬ (M 38 21 = 0 ∧ x - 48 = 0) ∧ (if 10 * M 38 21 + (x - 48) = 1 then 10 else 10 * M 38 21 + (x - 48)) ≤ zxL (zmR M) from ⟨by omega, by omega, by split <;> omega⟩)] <;> rfl) | (rw [show zxD (x - 48) (zmR M) = false from decide_eq_false (show ¬ (M 38 21 ≤ 1 ∧ ¬ (M 38 21 = 0 ∧ x - 48 = 0) ∧ (if 10 * M 38 21 + (x - 48) = 1 then 10 else 10 * M 38 21 + (x - 48)) ≤ zxL (zmR M)) from by rintro ⟨q1, q2, q3⟩; split at q3 <;> omega)] <;> rfl)) (by rfl) hJ88
          · show zJW X 83 [(2, zI (((10 * (M 38 21)) + x) - 48)), (0, zR 38), (1, zI x)] [] M
            refine z_iconst (pc := 83) hc 1 dX6_readOne_83 ?_
            refine z_goto (pc := 84) (tgt := 88) hc (by decide) dX6_readOne_84 ?_
            exact zJW_eq (by rfl) (by first | (rw [show zxD (x - 48) (zmR M) = true from decide_eq_true (show M 38 21 ≤ 1 ∧ ¬ (M 38 21 = 0 ∧ x - 48 = 0) ∧ (if 10 * M 38 21 + (x - 48) = 1 then 10 else 10 * M 38 21 + (x - 48)) ≤ zxL (zmR M) from ⟨by omega, by omega, by split <;> omega⟩)] <;> rfl) | (rw [show zxD (x - 48) (zmR M) = false from decide_eq_false (show ¬ (M 38 21 ≤ 1 ∧ ¬ (M 38 21 = 0 ∧ x - 48 = 0) ∧ (if 10 * M 38 21 + (x - 48) = 1 then 10 else 10 * M 38 21 + (x - 48)) ≤ zxL (zmR M)) from by rintro ⟨q1, q2, q3⟩; split at q3 <;> omega)] <;> rfl)) (by rfl) hJ88
    · show zJW X 31 [(2, zI (((10 * (M 38 21)) + x) - 48)), (0, zR 38), (1, zI x)] [] M
      refine z_ild (pc := 31) hc 0 rfl dX6_readOne_31 ?_
      refine z_ile (pc := 32) (tgt := 57) hc (by omega) (by decide) dX6_readOne_32 (fun h32 => ?_) (fun h32 => ?_)
      · show zJW X 57 [(2, zI (((10 * (M 38 21)) + x) - 48)), (0, zR 38), (1, zI x)] [] M
        refine z_iconst (pc := 57) hc 0 dX6_readOne_57 ?_
        refine z_goto (pc := 58) (tgt := 88) hc (by decide) dX6_readOne_58 ?_
        exact zJW_eq (by rfl) (by first | (rw [show zxD (x - 48) (zmR M) = true from decide_eq_true (show M 38 21 ≤ 1 ∧ ¬ (M 38 21 = 0 ∧ x - 48 = 0) ∧ (if 10 * M 38 21 + (x - 48) = 1 then 10 else 10 * M 38 21 + (x - 48)) ≤ zxL (zmR M) from ⟨by omega, by omega, by split <;> omega⟩)] <;> rfl) | (rw [show zxD (x - 48) (zmR M) = false from decide_eq_false (show ¬ (M 38 21 ≤ 1 ∧ ¬ (M 38 21 = 0 ∧ x - 48 = 0) ∧ (if 10 * M 38 21 + (x - 48) = 1 then 10 else 10 * M 38 21 + (x - 48)) ≤ zxL (zmR M)) from by rintro ⟨q1, q2, q3⟩; split at q3 <;> omega)] <;> rfl)) (by rfl) hJ88
      · show zJW X 35 [(2, zI (((10 * (M 38 21)) + x) - 48)), (0, zR 38), (1, zI x)] [] M
        refine z_ild (pc := 35) hc 0 rfl dX6_readOne_35 ?_
        refine z_iconst (pc := 36) hc 1 dX6_readOne_36 ?_
        refine z_cne (pc := 37) (tgt := 45) hc (by omega) (by decide) dX6_readOne_37 (fun h37 => ?_) (fun h37 => ?_)
        · show zJW X 45 [(2, zI (((10 * (M 38 21)) + x) - 48)), (0, zR 38), (1, zI x)] [] M
          refine z_ild (pc := 45) hc 0 rfl dX6_readOne_45 ?_
          refine z_ald (pc := 46) hc 1 rfl dX6_readOne_46 ?_
          refine kc_X6_191 (pc := 47) hc rfl (zfitX (by decide) rfl rfl) rfl (Nat.le_of_ble_eq_true rfl) (ct_X6_room M (by assumption) ) dX6_readOne_47 ?_
          refine z_cgt (pc := 50) (tgt := 57) hc (by omega) (by decide) dX6_readOne_50 (fun h50 => ?_) (fun h50 => ?_)
          · show zJW X 57 [(2, zI (((10 * (M 38 21)) + x) - 48)), (0, zR 38), (1, zI x)] [] M
            refine z_iconst (pc := 57) hc 0 dX6_readOne_57 ?_
            refine z_goto (pc := 58) (tgt := 88) hc (by decide) dX6_readOne_58 ?_
            exact zJW_eq (by rfl) (by first | (rw [show zxD (x - 48) (zmR M) = true from decide_eq_true (show M 38 21 ≤ 1 ∧ ¬ (M 38 21 = 0 ∧ x - 48 = 0) ∧ (if 10 * M 38 21 + (x - 48) = 1 then 10 else 10 * M 38 21 + (x - 48)) ≤ zxL (zmR M) from ⟨by omega, by omega, by split <;> omega⟩)] <;> rfl) | (rw [show zxD (x - 48) (zmR M) = false from decide_eq_false (show ¬ (M 38 21 ≤ 1 ∧ ¬ (M 38 21 = 0 ∧ x - 48 = 0) ∧ (if 10 * M 38 21 + (x - 48) = 1 then 10 else 10 * M 38 21 + (x - 48)) ≤ zxL (zmR M)) from by rintro ⟨q1, q2, q3⟩; split at q3 <;> omega)] <;> rfl)) (by rfl) hJ88
          · show zJW X 53 [(2, zI (((10 * (M 38 21)) + x) - 48)), (0, zR 38), (1, zI x)] [] M
            refine z_iconst (pc := 53) hc 1 dX6_readOne_53 ?_
            refine z_goto (pc := 54) (tgt := 88) hc (by decide) dX6_readOne_54 ?_
            exact zJW_eq (by rfl) (by first | (rw [show zxD (x - 48) (zmR M) = true from decide_eq_true (show M 38 21 ≤ 1 ∧ ¬ (M 38 21 = 0 ∧ x - 48 = 0) ∧ (if 10 * M 38 21 + (x - 48) = 1 then 10 else 10 * M 38 21 + (x - 48)) ≤ zxL (zmR M) from ⟨by omega, by omega, by split <;> omega⟩)] <;> rfl) | (rw [show zxD (x - 48) (zmR M) = false from decide_eq_false (show ¬ (M 38 21 ≤ 1 ∧ ¬ (M 38 21 = 0 ∧ x - 48 = 0) ∧ (if 10 * M 38 21 + (x - 48) = 1 then 10 else 10 * M 38 21 + (x - 48)) ≤ zxL (zmR M)) from by rintro ⟨q1, q2, q3⟩; split at q3 <;> omega)] <;> rfl)) (by rfl) hJ88
        · show zJW X 40 [(2, zI (((10 * (M 38 21)) + x) - 48)), (0, zR 38), (1, zI x)] [] M
          refine z_bipush (pc := 40) hc 10 (by decide) dX6_readOne_40 ?_
          refine z_goto (pc := 42) (tgt := 46) hc (by decide) dX6_readOne_42 ?_
          refine z_ald (pc := 46) hc 1 rfl dX6_readOne_46 ?_
          refine kc_X6_191 (pc := 47) hc rfl (zfitX (by decide) rfl rfl) rfl (Nat.le_of_ble_eq_true rfl) (ct_X6_room M (by assumption) ) dX6_readOne_47 ?_
          refine z_cgt (pc := 50) (tgt := 57) hc (by omega) (by decide) dX6_readOne_50 (fun h50 => ?_) (fun h50 => ?_)
          · show zJW X 57 [(2, zI (((10 * (M 38 21)) + x) - 48)), (0, zR 38), (1, zI x)] [] M
            refine z_iconst (pc := 57) hc 0 dX6_readOne_57 ?_
            refine z_goto (pc := 58) (tgt := 88) hc (by decide) dX6_readOne_58 ?_
            exact zJW_eq (by rfl) (by first | (rw [show zxD (x - 48) (zmR M) = true from decide_eq_true (show M 38 21 ≤ 1 ∧ ¬ (M 38 21 = 0 ∧ x - 48 = 0) ∧ (if 10 * M 38 21 + (x - 48) = 1 then 10 else 10 * M 38 21 + (x - 48)) ≤ zxL (zmR M) from ⟨by omega, by omega, by split <;> omega⟩)] <;> rfl) | (rw [show zxD (x - 48) (zmR M) = false from decide_eq_false (show ¬ (M 38 21 ≤ 1 ∧ ¬ (M 38 21 = 0 ∧ x - 48 = 0) ∧ (if 10 * M 38 21 + (x - 48) = 1 then 10 else 10 * M 38 21 + (x - 48)) ≤ zxL (zmR M)) from by rintro ⟨q1, q2, q3⟩; split at q3 <;> omega)] <;> rfl)) (by rfl) hJ88
          · show zJW X 53 [(2, zI (((10 * (M 38 21)) + x) - 48)), (0, zR 38), (1, zI x)] [] M
            refine z_iconst (pc := 53) hc 1 dX6_readOne_53 ?_
            refine z_goto (pc := 54) (tgt := 88) hc (by decide) dX6_readOne_54 ?_
            exact zJW_eq (by rfl) (by first | (rw [show zxD (x - 48) (zmR M) = true from decide_eq_true (show M 38 21 ≤ 1 ∧ ¬ (M 38 21 = 0 ∧ x - 48 = 0) ∧ (if 10 * M 38 21 + (x - 48) = 1 then 10 else 10 * M 38 21 + (x - 48)) ≤ zxL (zmR M) from ⟨by omega, by omega, by split <;> omega⟩)] <;> rfl) | (rw [show zxD (x - 48) (zmR M) = false from decide_eq_false (show ¬ (M 38 21 ≤ 1 ∧ ¬ (M 38 21 = 0 ∧ x - 48 = 0) ∧ (if 10 * M 38 21 + (x - 48) = 1 then 10 else 10 * M 38 21 + (x - 48)) ≤ zxL (zmR M)) from by rintro ⟨q1, q2, q3⟩; split at q3 <;> omega)] <;> rfl)) (by rfl) hJ88

set_option maxRecDepth 100000 in
set_option maxHeartbeats 4000000 in
theorem ct_X6_errorPosition (M : Mem) (hL : 0 ≤ M 38 6 ∧ M 38 6 ≤ 80) (hC : ∀ z : Int, 0 ≤ z → z < 80 → 0 ≤ M 42 z ∧ M 42 z < 128)  : zCt yX6_errorPosition KX6_errorPosition [zR 38] M (fun zv zM => zv = some (epT (M 42) (M 38 6).toNat) ∧ zM = erM M) := by
  refine z_met (by decide) rfl (Nat.le_of_ble_eq_true rfl) (fun X hc he => ?_)
  show zJW X 0 [(0, zR 38)] [] M
  refine z_ald (pc := 0) hc 0 rfl dX6_errorPosition_0 ?_
  refine z_iconst (pc := 1) hc 0 dX6_errorPosition_1 ?_
  refine fp_X6_179 (pc := 2) hc rfl rfl dX6_errorPosition_2 ?_
  refine z_ald (pc := 5) hc 0 rfl dX6_errorPosition_5 ?_
  refine z_iconst (pc := 6) hc 0 dX6_errorPosition_6 ?_
  refine fp_X6_182 (pc := 7) hc rfl rfl dX6_errorPosition_7 ?_
  refine z_ald (pc := 10) hc 0 rfl dX6_errorPosition_10 ?_
  refine z_iconst (pc := 11) hc 0 dX6_errorPosition_11 ?_
  refine fp_X6_185 (pc := 12) hc rfl rfl dX6_errorPosition_12 ?_
  refine z_ald (pc := 15) hc 0 rfl dX6_errorPosition_15 ?_
  refine z_iconst (pc := 16) hc 0 dX6_errorPosition_16 ?_
  refine fp_X6_188 (pc := 17) hc rfl rfl dX6_errorPosition_17 ?_
  refine z_iconst (pc := 20) hc 0 dX6_errorPosition_20 ?_
  refine z_ist (pc := 21) (lv' := [(1, zI 0), (0, zR 38)]) hc rfl (by decide) dX6_errorPosition_21 ?_
  refine z_forI ((M 38 6).toNat) (fun i22 => [(1, zI ((i22 : Nat) : Int)), (0, zR 38)]) (fun i22 => (prR M i22)) (fun i22 => zrep (epE (M 42)) i22 (-6) = -6) (by rfl) (by rfl) (by rfl) (fun hv22 => ?_) (fun i22 hi22 hv22 ih22 => ?_)
  · show zJW X 22 [(1, zI ((((M 38 6).toNat) : Nat) : Int)), (0, zR 38)] [] (prR M ((M 38 6).toNat))
    have a22 := ep_all hv22
    have q22 := prR_P a22
    have hV22 : zxV (zmR (prR M ((M 38 6).toNat))) := by rw [q22.2]; exact zsqV a22
    have hl22 : prR M ((M 38 6).toNat) 38 6 = M 38 6 := q22.1.2 6 (by omega)
    have hc22 : prR M ((M 38 6).toNat) 42 = M 42 := q22.1.1 42 (by decide) (by decide)
    refine z_ild (pc := 22) hc 0 rfl dX6_errorPosition_22 ?_
    refine z_ald (pc := 23) hc 1 rfl dX6_errorPosition_23 ?_
    refine fg_X6_176 (pc := 24) hc rfl rfl dX6_errorPosition_24 ?_
    refine z_cge (pc := 27) (tgt := 51) hc (by omega) (by decide) dX6_errorPosition_27 (fun h27 => ?_) (fun h27 => ?_)
    · show zJW X 51 [(1, zI ((((M 38 6).toNat) : Nat) : Int)), (0, zR 38)] [] (prR M ((M 38 6).toNat))
      refine z_ald (pc := 51) hc 1 rfl dX6_errorPosition_51 ?_
      refine kc_X6_194 (pc := 52) hc rfl (zfitX (by decide) rfl rfl) rfl (Nat.le_of_ble_eq_true rfl) (ct_X6_isRowWhole (prR M ((M 38 6).toNat)) (by assumption) ) dX6_errorPosition_52 ?_
      refine z_beq (pc := 55) (tgt := 63) hc (by decide) dX6_errorPosition_55 (fun h55 => ?_) (fun h55 => ?_)
      · show zJW X 63 [(1, zI ((((M 38 6).toNat) : Nat) : Int)), (0, zR 38)] [] (prR M ((M 38 6).toNat))
        refine z_ald (pc := 63) hc 1 rfl dX6_errorPosition_63 ?_
        refine fg_X6_176 (pc := 64) hc rfl rfl dX6_errorPosition_64 ?_
        exact z_iret (pc := 67) hc he rfl dX6_errorPosition_67 (by have z := ep_end hv22; rw [q22.2] at h55; first | (have hf : ¬ ((zsq (M 42) (M 38 6).toNat).2.2.2 = 0 ∧ zxE (zsq (M 42) (M 38 6).toNat) = true) := (by rintro ⟨a, b⟩; unfold zxW at h55; rw [decide_eq_true a, b] at h55; exact absurd h55 (by decide)); rw [if_neg hf] at z; exact ⟨congrArg some (by rw [z.1]; omega), by rw [erM, z.2]⟩) | (have hf : (zsq (M 42) (M 38 6).toNat).2.2.2 = 0 ∧ zxE (zsq (M 42) (M 38 6).toNat) = true := (by unfold zxW at h55; rw [Bool.and_eq_true, decide_eq_true_eq] at h55; exact h55); rw [if_pos hf] at z; exact ⟨congrArg some (by rw [z.1]), by rw [erM, z.2]⟩))
      · show zJW X 58 [(1, zI ((((M 38 6).toNat) : Nat) : Int)), (0, zR 38)] [] (prR M ((M 38 6).toNat))
        refine z_bipush (pc := 58) hc (-6) (by decide) dX6_errorPosition_58 ?_
        refine z_goto (pc := 60) (tgt := 67) hc (by decide) dX6_errorPosition_60 ?_
        exact z_iret (pc := 67) hc he rfl dX6_errorPosition_67 (by have z := ep_end hv22; rw [q22.2] at h55; first | (have hf : ¬ ((zsq (M 42) (M 38 6).toNat).2.2.2 = 0 ∧ zxE (zsq (M 42) (M 38 6).toNat) = true) := (by rintro ⟨a, b⟩; unfold zxW at h55; rw [decide_eq_true a, b] at h55; exact absurd h55 (by decide)); rw [if_neg hf] at z; exact ⟨congrArg some (by rw [z.1]; omega), by rw [erM, z.2]⟩) | (have hf : (zsq (M 42) (M 38 6).toNat).2.2.2 = 0 ∧ zxE (zsq (M 42) (M 38 6).toNat) = true := (by unfold zxW at h55; rw [Bool.and_eq_true, decide_eq_true_eq] at h55; exact h55); rw [if_pos hf] at z; exact ⟨congrArg some (by rw [z.1]), by rw [erM, z.2]⟩))
    · exfalso; omega
  · show zJW X 22 [(1, zI ((i22 : Nat) : Int)), (0, zR 38)] [] (prR M i22)
    have a22 := ep_all hv22
    have q22 := prR_P a22
    have hV22 : zxV (zmR (prR M (i22))) := by rw [q22.2]; exact zsqV a22
    have hl22 : prR M (i22) 38 6 = M 38 6 := q22.1.2 6 (by omega)
    have hc22 : prR M (i22) 42 = M 42 := q22.1.1 42 (by decide) (by decide)
    have hx22 : 0 ≤ M 42 ((i22 : Nat) : Int) ∧ M 42 ((i22 : Nat) : Int) < 128 := hC ((i22 : Nat) : Int) (by omega) (by omega)
    refine z_ild (pc := 22) hc 0 rfl dX6_errorPosition_22 ?_
    refine z_ald (pc := 23) hc 1 rfl dX6_errorPosition_23 ?_
    refine fg_X6_176 (pc := 24) hc rfl rfl dX6_errorPosition_24 ?_
    refine z_cge (pc := 27) (tgt := 51) hc (by omega) (by decide) dX6_errorPosition_27 (fun h27 => ?_) (fun h27 => ?_)
    · exfalso; omega
    · show zJW X 30 [(1, zI ((i22 : Nat) : Int)), (0, zR 38)] [] (prR M i22)
      refine z_ald (pc := 30) hc 1 rfl dX6_errorPosition_30 ?_
      refine z_ald (pc := 31) hc 1 rfl dX6_errorPosition_31 ?_
      refine fg_X6_19 (pc := 32) hc rfl rfl dX6_errorPosition_32 ?_
      refine z_ild (pc := 35) hc 0 rfl dX6_errorPosition_35 ?_
      refine z_cald (pc := 36) hc rfl rfl rfl (by decide) (by omega) dX6_errorPosition_36 ?_
      rw [hc22]
      refine kc_X6_200 (pc := 37) hc rfl (zfitX (by decide) rfl rfl) rfl (Nat.le_of_ble_eq_true rfl) (ct_X6_readOne (prR M i22) (by assumption) (M 42 ((i22 : Nat) : Int)) (by omega)) dX6_errorPosition_37 ?_
      refine z_bne (pc := 40) (tgt := 45) hc (by decide) dX6_errorPosition_40 (fun h40 => ?_) (fun h40 => ?_)
      · show zJW X 45 [(1, zI ((i22 : Nat) : Int)), (0, zR 38)] [] (if zxB (M 42 ((i22 : Nat) : Int)) (zmR (prR M i22)) = true then zxR (M 42 ((i22 : Nat) : Int)) (prR M i22) else (prR M i22))
        have hb40 := h40
        rw [q22.2] at hb40
        rw [if_pos h40]
        refine z_iinc (pc := 45) (lv' := [(1, zI (((i22 : Nat) : Int) + 1)), (0, zR 38)]) hc 0 rfl rfl (by decide) dX6_errorPosition_45 ?_
        refine z_goto (pc := 48) (tgt := 22) hc (by decide) dX6_errorPosition_48 ?_
        exact zJW_eq (by rfl) rfl (by rfl) (ih22 (by exact ep_s hv22 hb40))
      · show zJW X 43 [(1, zI ((i22 : Nat) : Int)), (0, zR 38)] [] (if zxB (M 42 ((i22 : Nat) : Int)) (zmR (prR M i22)) = true then zxR (M 42 ((i22 : Nat) : Int)) (prR M i22) else (prR M i22))
        refine z_ild (pc := 43) hc 0 rfl dX6_errorPosition_43 ?_
        exact z_iret (pc := 44) hc he rfl dX6_errorPosition_44 (by have hb := h40; rw [q22.2] at hb; have z := ep_at hi22 hv22 hb; exact ⟨congrArg some (by rw [z.1]), by rw [if_neg (by rw [h40]; decide), erM, z.2]⟩)
