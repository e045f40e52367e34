set_option maxRecDepth 100000 in
set_option maxHeartbeats 4000000 in
theorem ct_X5_isLineCount (M : Mem) (x : Int) (hb_x : -2147483648 ≤ x ∧ x < 2147483648) : zCt yX5_isLineCount KX5_isLineCount [zI x] M (fun zv zM => zv = some (zbz (decide (1 ≤ x ∧ x ≤ 12))) ∧ zM = M) := by
  refine z_met (by decide) rfl (Nat.le_of_ble_eq_true rfl) (fun X hc he => ?_)
  show zJW X 0 [(0, zI x)] [] M
  refine z_ild (pc := 0) hc 0 rfl dX5_isLineCount_0 ?_
  refine z_iconst (pc := 1) hc 1 dX5_isLineCount_1 ?_
  refine z_clt (pc := 2) (tgt := 15) hc (by omega) (by decide) dX5_isLineCount_2 (fun h2 => ?_) (fun h2 => ?_)
  · show zJW X 15 [(0, zI x)] [] M
    refine z_iconst (pc := 15) hc 0 dX5_isLineCount_15 ?_
    exact z_bret (pc := 16) (a := false) hc he rfl dX5_isLineCount_16 (by refine ⟨?_, rfl⟩; simp [zbz]; omega)
  · show zJW X 5 [(0, zI x)] [] M
    refine z_ild (pc := 5) hc 0 rfl dX5_isLineCount_5 ?_
    refine z_bipush (pc := 6) hc 12 (by decide) dX5_isLineCount_6 ?_
    refine z_cgt (pc := 8) (tgt := 15) hc (by omega) (by decide) dX5_isLineCount_8 (fun h8 => ?_) (fun h8 => ?_)
    · show zJW X 15 [(0, zI x)] [] M
      refine z_iconst (pc := 15) hc 0 dX5_isLineCount_15 ?_
      exact z_bret (pc := 16) (a := false) hc he rfl dX5_isLineCount_16 (by refine ⟨?_, rfl⟩; simp [zbz]; omega)
    · show zJW X 11 [(0, zI x)] [] M
      refine z_iconst (pc := 11) hc 1 dX5_isLineCount_11 ?_
      refine z_goto (pc := 12) (tgt := 16) hc (by decide) dX5_isLineCount_12 ?_
      exact z_bret (pc := 16) (a := true) hc he rfl dX5_isLineCount_16 (by refine ⟨?_, rfl⟩; simp [zbz]; omega)

set_option maxRecDepth 100000 in
set_option maxHeartbeats 4000000 in
theorem ct_X5_isLineOf (M : Mem) (x : Int) (n : Int) (hb_x : -2147483648 ≤ x ∧ x < 2147483648) (hb_n : -2147483648 ≤ n ∧ n < 2147483648) : zCt yX5_isLineOf KX5_isLineOf [zI x, zI n] M (fun zv zM => zv = some (zbz (decide (0 ≤ x ∧ x < n ∧ x < 12))) ∧ zM = M) := by
  refine z_met (by decide) rfl (Nat.le_of_ble_eq_true rfl) (fun X hc he => ?_)
  show zJW X 0 [(0, zI x), (1, zI n)] [] M
  refine z_ild (pc := 0) hc 0 rfl dX5_isLineOf_0 ?_
  refine z_ilt (pc := 1) (tgt := 19) hc (by omega) (by decide) dX5_isLineOf_1 (fun h1 => ?_) (fun h1 => ?_)
  · show zJW X 19 [(0, zI x), (1, zI n)] [] M
    refine z_iconst (pc := 19) hc 0 dX5_isLineOf_19 ?_
    exact z_bret (pc := 20) (a := false) hc he rfl dX5_isLineOf_20 (by refine ⟨?_, rfl⟩; simp [zbz]; omega)
  · show zJW X 4 [(0, zI x), (1, zI n)] [] M
    refine z_ild (pc := 4) hc 0 rfl dX5_isLineOf_4 ?_
    refine z_ild (pc := 5) hc 1 rfl dX5_isLineOf_5 ?_
    refine z_cge (pc := 6) (tgt := 19) hc (by omega) (by decide) dX5_isLineOf_6 (fun h6 => ?_) (fun h6 => ?_)
    · show zJW X 19 [(0, zI x), (1, zI n)] [] M
      refine z_iconst (pc := 19) hc 0 dX5_isLineOf_19 ?_
      exact z_bret (pc := 20) (a := false) hc he rfl dX5_isLineOf_20 (by refine ⟨?_, rfl⟩; simp [zbz]; omega)
    · show zJW X 9 [(0, zI x), (1, zI n)] [] M
      refine z_ild (pc := 9) hc 0 rfl dX5_isLineOf_9 ?_
      refine z_bipush (pc := 10) hc 12 (by decide) dX5_isLineOf_10 ?_
      refine z_cge (pc := 12) (tgt := 19) hc (by omega) (by decide) dX5_isLineOf_12 (fun h12 => ?_) (fun h12 => ?_)
      · show zJW X 19 [(0, zI x), (1, zI n)] [] M
        refine z_iconst (pc := 19) hc 0 dX5_isLineOf_19 ?_
        exact z_bret (pc := 20) (a := false) hc he rfl dX5_isLineOf_20 (by refine ⟨?_, rfl⟩; simp [zbz]; omega)
      · show zJW X 15 [(0, zI x), (1, zI n)] [] M
        refine z_iconst (pc := 15) hc 1 dX5_isLineOf_15 ?_
        refine z_goto (pc := 16) (tgt := 20) hc (by decide) dX5_isLineOf_16 ?_
        exact z_bret (pc := 20) (a := true) hc he rfl dX5_isLineOf_20 (by refine ⟨?_, rfl⟩; simp [zbz]; omega)

set_option maxRecDepth 100000 in
set_option maxHeartbeats 4000000 in
theorem ct_X5_isShape (M : Mem) (x : Int) (hb_x : -2147483648 ≤ x ∧ x < 2147483648) : zCt yX5_isShape KX5_isShape [zI x] M (fun zv zM => zv = some (zbz (decide (0 ≤ x ∧ x < 47))) ∧ zM = M) := by
  refine z_met (by decide) rfl (Nat.le_of_ble_eq_true rfl) (fun X hc he => ?_)
  show zJW X 0 [(0, zI x)] [] M
  refine z_ild (pc := 0) hc 0 rfl dX5_isShape_0 ?_
  refine z_ilt (pc := 1) (tgt := 14) hc (by omega) (by decide) dX5_isShape_1 (fun h1 => ?_) (fun h1 => ?_)
  · show zJW X 14 [(0, zI x)] [] M
    refine z_iconst (pc := 14) hc 0 dX5_isShape_14 ?_
    exact z_bret (pc := 15) (a := false) hc he rfl dX5_isShape_15 (by refine ⟨?_, rfl⟩; simp [zbz]; omega)
  · show zJW X 4 [(0, zI x)] [] M
    refine z_ild (pc := 4) hc 0 rfl dX5_isShape_4 ?_
    refine z_bipush (pc := 5) hc 47 (by decide) dX5_isShape_5 ?_
    refine z_cge (pc := 7) (tgt := 14) hc (by omega) (by decide) dX5_isShape_7 (fun h7 => ?_) (fun h7 => ?_)
    · show zJW X 14 [(0, zI x)] [] M
      refine z_iconst (pc := 14) hc 0 dX5_isShape_14 ?_
      exact z_bret (pc := 15) (a := false) hc he rfl dX5_isShape_15 (by refine ⟨?_, rfl⟩; simp [zbz]; omega)
    · show zJW X 10 [(0, zI x)] [] M
      refine z_iconst (pc := 10) hc 1 dX5_isShape_10 ?_
      refine z_goto (pc := 11) (tgt := 15) hc (by decide) dX5_isShape_11 ?_
      exact z_bret (pc := 15) (a := true) hc he rfl dX5_isShape_15 (by refine ⟨?_, rfl⟩; simp [zbz]; omega)
