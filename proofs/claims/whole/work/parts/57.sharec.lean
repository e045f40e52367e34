set_option maxRecDepth 100000 in
set_option maxHeartbeats 4000000 in
theorem ct_X5_bitsOfShare (M : Mem) (x : UInt32) (N : Nat) (hp : 0 < zfc .g x FP.fconst0) (hH : zshH x N) : zCt yX5_bitsOfShare KX5_bitsOfShare [zF x] M (fun zv zM => zv = some (zshV N (zdb N x)) ∧ zM = M) := by
  obtain ⟨k1, k2, k3, k4, k5, k6, k7⟩ := id hH
  refine z_met (by decide) rfl (Nat.le_of_ble_eq_true rfl) (fun X hc he => ?_)
  show zJW X 0 [(0, zF x)] [] M
  refine z_fld (pc := 0) hc 0 rfl dX5_bitsOfShare_0 ?_
  refine z_fconst0 (pc := 1) hc dX5_bitsOfShare_1 ?_
  refine z_fcmp (pc := 2) hc .g dX5_bitsOfShare_2 ?_
  refine z_igt (pc := 3) (tgt := 8) hc (by have := zfc_bd .g x FP.fconst0; omega) (by decide) dX5_bitsOfShare_3 (fun h3 => ?_) (fun h3 => ?_)
  · show zJW X 8 [(0, zF x)] [] M
    refine z_fld (pc := 8) hc 0 rfl dX5_bitsOfShare_8 ?_
    refine z_fst (pc := 9) (lv' := [(1, zF x), (0, zF x)]) hc rfl (by decide) dX5_bitsOfShare_9 ?_
    refine z_bipush (pc := 10) hc 127 (by decide) dX5_bitsOfShare_10 ?_
    refine z_ist (pc := 12) (lv' := [(2, zI 127), (1, zF x), (0, zF x)]) hc rfl (by decide) dX5_bitsOfShare_12 ?_
    refine z_iconst (pc := 13) hc 0 dX5_bitsOfShare_13 ?_
    refine z_ist (pc := 14) (lv' := [(3, zI 0), (2, zI 127), (1, zF x), (0, zF x)]) hc rfl (by decide) dX5_bitsOfShare_14 ?_
    refine z_for N (fun i15 => [(3, zI ((i15 : Nat) : Int)), (2, zI (127 - ((i15 : Nat) : Int))), (1, zF (zdb i15 x)), (0, zF x)]) (fun i15 => M) (by rfl) (by rfl) ?_ (fun i15 hi15 ih15 => ?_)
    · show zJW X 15 [(3, zI ((N : Nat) : Int)), (2, zI (127 - ((N : Nat) : Int))), (1, zF (zdb N x)), (0, zF x)] [] M
      refine z_ild (pc := 15) hc 0 rfl dX5_bitsOfShare_15 ?_
      refine z_bipush (pc := 16) hc 126 (by decide) dX5_bitsOfShare_16 ?_
      refine z_cge (pc := 18) (tgt := 40) hc (by omega) (by decide) dX5_bitsOfShare_18 (fun h18 => ?_) (fun h18 => ?_)
      · exfalso; omega
      · show zJW X 21 [(3, zI ((N : Nat) : Int)), (2, zI (127 - ((N : Nat) : Int))), (1, zF (zdb N x)), (0, zF x)] [] M
        refine z_fld (pc := 21) hc 2 rfl dX5_bitsOfShare_21 ?_
        refine z_fconst1 (pc := 22) hc dX5_bitsOfShare_22 ?_
        refine z_fcmp (pc := 23) hc .g dX5_bitsOfShare_23 ?_
        refine z_ige (pc := 24) (tgt := 40) hc (by first | (have := zfc_bd .g (zdb i15 x) FP.fconst1; omega) | (have := zfc_bd .g (zdb N x) FP.fconst1; omega)) (by decide) dX5_bitsOfShare_24 (fun h24 => ?_) (fun h24 => ?_)
        · show zJW X 40 [(3, zI ((N : Nat) : Int)), (2, zI (127 - ((N : Nat) : Int))), (1, zF (zdb N x)), (0, zF x)] [] M
          refine z_fld (pc := 40) hc 2 rfl dX5_bitsOfShare_40 ?_
          refine z_fconst1 (pc := 41) hc dX5_bitsOfShare_41 ?_
          refine z_fsub (pc := 42) hc (by assumption) dX5_bitsOfShare_42 ?_
          refine z_ldcf (pc := 43) hc 1258291200 (List.mem_filter.mpr ⟨List.mem_of_getElem? (i := 487) (by decide +kernel), rfl⟩) dX5_bitsOfShare_43 ?_
          refine z_fmul (pc := 45) hc (by assumption) dX5_bitsOfShare_45 ?_
          refine z_f2i (pc := 46) hc dX5_bitsOfShare_46 ?_
          refine z_ist (pc := 47) (lv' := [(3, zI ((FP.f2i (FP.fmul (FP.fsub (zdb N x) FP.fconst1) 1258291200)).toInt)), (2, zI (127 - ((N : Nat) : Int))), (1, zF (zdb N x)), (0, zF x)]) hc rfl (by decide) dX5_bitsOfShare_47 ?_
          refine z_ild (pc := 48) hc 1 rfl dX5_bitsOfShare_48 ?_
          refine z_bipush (pc := 49) hc 23 (by decide) dX5_bitsOfShare_49 ?_
          refine z_ishl (pc := 51) hc dX5_bitsOfShare_51 ?_
          refine z_ild (pc := 52) hc 0 rfl dX5_bitsOfShare_52 ?_
          refine z_ior (pc := 53) hc dX5_bitsOfShare_53 ?_
          exact z_iret (pc := 54) hc he rfl dX5_bitsOfShare_54 (⟨rfl, rfl⟩)
        · exfalso; omega
    · show zJW X 15 [(3, zI ((i15 : Nat) : Int)), (2, zI (127 - ((i15 : Nat) : Int))), (1, zF (zdb i15 x)), (0, zF x)] [] M
      have k2i := (k2 i15 hi15).1
      refine z_ild (pc := 15) hc 0 rfl dX5_bitsOfShare_15 ?_
      refine z_bipush (pc := 16) hc 126 (by decide) dX5_bitsOfShare_16 ?_
      refine z_cge (pc := 18) (tgt := 40) hc (by omega) (by decide) dX5_bitsOfShare_18 (fun h18 => ?_) (fun h18 => ?_)
      · exfalso; omega
      · show zJW X 21 [(3, zI ((i15 : Nat) : Int)), (2, zI (127 - ((i15 : Nat) : Int))), (1, zF (zdb i15 x)), (0, zF x)] [] M
        refine z_fld (pc := 21) hc 2 rfl dX5_bitsOfShare_21 ?_
        refine z_fconst1 (pc := 22) hc dX5_bitsOfShare_22 ?_
        refine z_fcmp (pc := 23) hc .g dX5_bitsOfShare_23 ?_
        refine z_ige (pc := 24) (tgt := 40) hc (by first | (have := zfc_bd .g (zdb i15 x) FP.fconst1; omega) | (have := zfc_bd .g (zdb N x) FP.fconst1; omega)) (by decide) dX5_bitsOfShare_24 (fun h24 => ?_) (fun h24 => ?_)
        · exfalso; omega
        · show zJW X 27 [(3, zI ((i15 : Nat) : Int)), (2, zI (127 - ((i15 : Nat) : Int))), (1, zF (zdb i15 x)), (0, zF x)] [] M
          refine z_fld (pc := 27) hc 2 rfl dX5_bitsOfShare_27 ?_
          refine z_fconst2 (pc := 28) hc dX5_bitsOfShare_28 ?_
          refine z_fmul (pc := 29) hc ((k2 i15 hi15).2) dX5_bitsOfShare_29 ?_
          refine z_fst (pc := 30) (lv' := [(1, zF (FP.fmul (zdb i15 x) FP.fconst2)), (3, zI ((i15 : Nat) : Int)), (2, zI (127 - ((i15 : Nat) : Int))), (0, zF x)]) hc rfl (by decide) dX5_bitsOfShare_30 ?_
          refine z_iinc (pc := 31) (lv' := [(2, zI ((127 - ((i15 : Nat) : Int)) + (-1))), (1, zF (FP.fmul (zdb i15 x) FP.fconst2)), (3, zI ((i15 : Nat) : Int)), (0, zF x)]) hc 2 rfl rfl (by decide) dX5_bitsOfShare_31 ?_
          refine z_iinc (pc := 34) (lv' := [(3, zI (((i15 : Nat) : Int) + 1)), (2, zI ((127 - ((i15 : Nat) : Int)) + (-1))), (1, zF (FP.fmul (zdb i15 x) FP.fconst2)), (0, zF x)]) hc 2 rfl rfl (by decide) dX5_bitsOfShare_34 ?_
          refine z_goto (pc := 37) (tgt := 15) hc (by decide) dX5_bitsOfShare_37 ?_
          exact zJW_eq (by rw [show (127 - ((i15 : Nat) : Int) + (-1)) = 127 - ((i15 + 1 : Nat) : Int) by omega]; rfl) rfl (by rfl) ih15
  · exfalso; omega

set_option maxRecDepth 100000 in
set_option maxHeartbeats 4000000 in
theorem ct_X5_bitsOfShare0 (M : Mem) (x : UInt32) (hp : zfc .g x FP.fconst0 ≤ 0) : zCt yX5_bitsOfShare KX5_bitsOfShare [zF x] M (fun zv zM => zv = some 0 ∧ zM = M) := by
  refine z_met (by decide) rfl (Nat.le_of_ble_eq_true rfl) (fun X hc he => ?_)
  show zJW X 0 [(0, zF x)] [] M
  refine z_fld (pc := 0) hc 0 rfl dX5_bitsOfShare_0 ?_
  refine z_fconst0 (pc := 1) hc dX5_bitsOfShare_1 ?_
  refine z_fcmp (pc := 2) hc .g dX5_bitsOfShare_2 ?_
  refine z_igt (pc := 3) (tgt := 8) hc (by have := zfc_bd .g x FP.fconst0; omega) (by decide) dX5_bitsOfShare_3 (fun h3 => ?_) (fun h3 => ?_)
  · exfalso; omega
  · show zJW X 6 [(0, zF x)] [] M
    refine z_iconst (pc := 6) hc 0 dX5_bitsOfShare_6 ?_
    exact z_iret (pc := 7) hc he rfl dX5_bitsOfShare_7 (⟨rfl, rfl⟩)

set_option maxRecDepth 100000 in
set_option maxHeartbeats 4000000 in
theorem ct_X6_bitsOfFloat (M : Mem) (x : UInt32) (N : Nat) (hp : zfc .l x FP.fconst0 ≠ 0) (hH : zshH x N) : zCt yX6_bitsOfFloat KX6_bitsOfFloat [zF x] M (fun zv zM => zv = some (zshV N (zdb N x)) ∧ zM = M) := by
  obtain ⟨k1, k2, k3, k4, k5, k6, k7⟩ := id hH
  refine z_met (by decide) rfl (Nat.le_of_ble_eq_true rfl) (fun X hc he => ?_)
  show zJW X 0 [(0, zF x)] [] M
  refine z_fld (pc := 0) hc 0 rfl dX6_bitsOfFloat_0 ?_
  refine z_fconst0 (pc := 1) hc dX6_bitsOfFloat_1 ?_
  refine z_fcmp (pc := 2) hc .l dX6_bitsOfFloat_2 ?_
  refine z_ine (pc := 3) (tgt := 8) hc (by have := zfc_bd .l x FP.fconst0; omega) (by decide) dX6_bitsOfFloat_3 (fun h3 => ?_) (fun h3 => ?_)
  · show zJW X 8 [(0, zF x)] [] M
    refine z_fld (pc := 8) hc 0 rfl dX6_bitsOfFloat_8 ?_
    refine z_fst (pc := 9) (lv' := [(1, zF x), (0, zF x)]) hc rfl (by decide) dX6_bitsOfFloat_9 ?_
    refine z_bipush (pc := 10) hc 127 (by decide) dX6_bitsOfFloat_10 ?_
    refine z_ist (pc := 12) (lv' := [(2, zI 127), (1, zF x), (0, zF x)]) hc rfl (by decide) dX6_bitsOfFloat_12 ?_
    refine z_for N (fun i13 => [(2, zI (127 - ((i13 : Nat) : Int))), (1, zF (zdb i13 x)), (0, zF x)]) (fun i13 => M) (by rfl) (by rfl) ?_ (fun i13 hi13 ih13 => ?_)
    · show zJW X 13 [(2, zI (127 - ((N : Nat) : Int))), (1, zF (zdb N x)), (0, zF x)] [] M
      refine z_fld (pc := 13) hc 1 rfl dX6_bitsOfFloat_13 ?_
      refine z_fconst1 (pc := 14) hc dX6_bitsOfFloat_14 ?_
      refine z_fcmp (pc := 15) hc .g dX6_bitsOfFloat_15 ?_
      refine z_ige (pc := 16) (tgt := 29) hc (by first | (have := zfc_bd .g (zdb i13 x) FP.fconst1; omega) | (have := zfc_bd .g (zdb N x) FP.fconst1; omega)) (by decide) dX6_bitsOfFloat_16 (fun h16 => ?_) (fun h16 => ?_)
      · show zJW X 29 [(2, zI (127 - ((N : Nat) : Int))), (1, zF (zdb N x)), (0, zF x)] [] M
        refine z_ild (pc := 29) hc 0 rfl dX6_bitsOfFloat_29 ?_
        refine z_bipush (pc := 30) hc 23 (by decide) dX6_bitsOfFloat_30 ?_
        refine z_ishl (pc := 32) hc dX6_bitsOfFloat_32 ?_
        refine z_fld (pc := 33) hc 1 rfl dX6_bitsOfFloat_33 ?_
        refine z_ldcf (pc := 34) hc 1258291200 (List.mem_filter.mpr ⟨List.mem_of_getElem? (i := 862) (by decide +kernel), rfl⟩) dX6_bitsOfFloat_34 ?_
        refine z_fmul (pc := 36) hc (by assumption) dX6_bitsOfFloat_36 ?_
        refine z_f2i (pc := 37) hc dX6_bitsOfFloat_37 ?_
        refine z_iadd (pc := 38) hc dX6_bitsOfFloat_38 ?_
        refine z_ldc (pc := 39) hc 8388608 (List.mem_filter.mpr ⟨List.mem_of_getElem? (i := 863) (by decide +kernel), rfl⟩) dX6_bitsOfFloat_39 ?_
        refine z_isub (pc := 41) hc dX6_bitsOfFloat_41 ?_
        exact z_iret (pc := 42) hc he rfl dX6_bitsOfFloat_42 (by rw [k7]; exact ⟨rfl, rfl⟩)
      · exfalso; omega
    · show zJW X 13 [(2, zI (127 - ((i13 : Nat) : Int))), (1, zF (zdb i13 x)), (0, zF x)] [] M
      have k2i := (k2 i13 hi13).1
      refine z_fld (pc := 13) hc 1 rfl dX6_bitsOfFloat_13 ?_
      refine z_fconst1 (pc := 14) hc dX6_bitsOfFloat_14 ?_
      refine z_fcmp (pc := 15) hc .g dX6_bitsOfFloat_15 ?_
      refine z_ige (pc := 16) (tgt := 29) hc (by first | (have := zfc_bd .g (zdb i13 x) FP.fconst1; omega) | (have := zfc_bd .g (zdb N x) FP.fconst1; omega)) (by decide) dX6_bitsOfFloat_16 (fun h16 => ?_) (fun h16 => ?_)
      · exfalso; omega
      · show zJW X 19 [(2, zI (127 - ((i13 : Nat) : Int))), (1, zF (zdb i13 x)), (0, zF x)] [] M
        refine z_fld (pc := 19) hc 1 rfl dX6_bitsOfFloat_19 ?_
        refine z_fconst2 (pc := 20) hc dX6_bitsOfFloat_20 ?_
        refine z_fmul (pc := 21) hc ((k2 i13 hi13).2) dX6_bitsOfFloat_21 ?_
        refine z_fst (pc := 22) (lv' := [(1, zF (FP.fmul (zdb i13 x) FP.fconst2)), (2, zI (127 - ((i13 : Nat) : Int))), (0, zF x)]) hc rfl (by decide) dX6_bitsOfFloat_22 ?_
        refine z_iinc (pc := 23) (lv' := [(2, zI ((127 - ((i13 : Nat) : Int)) + (-1))), (1, zF (FP.fmul (zdb i13 x) FP.fconst2)), (0, zF x)]) hc 1 rfl rfl (by decide) dX6_bitsOfFloat_23 ?_
        refine z_goto (pc := 26) (tgt := 13) hc (by decide) dX6_bitsOfFloat_26 ?_
        exact zJW_eq (by rw [show (127 - ((i13 : Nat) : Int) + (-1)) = 127 - ((i13 + 1 : Nat) : Int) by omega]; rfl) rfl (by rfl) ih13
  · exfalso; omega

set_option maxRecDepth 100000 in
set_option maxHeartbeats 4000000 in
theorem ct_X6_bitsOfFloat0 (M : Mem) (x : UInt32) (hp : zfc .l x FP.fconst0 = 0) : zCt yX6_bitsOfFloat KX6_bitsOfFloat [zF x] M (fun zv zM => zv = some 0 ∧ zM = M) := by
  refine z_met (by decide) rfl (Nat.le_of_ble_eq_true rfl) (fun X hc he => ?_)
  show zJW X 0 [(0, zF x)] [] M
  refine z_fld (pc := 0) hc 0 rfl dX6_bitsOfFloat_0 ?_
  refine z_fconst0 (pc := 1) hc dX6_bitsOfFloat_1 ?_
  refine z_fcmp (pc := 2) hc .l dX6_bitsOfFloat_2 ?_
  refine z_ine (pc := 3) (tgt := 8) hc (by have := zfc_bd .l x FP.fconst0; omega) (by decide) dX6_bitsOfFloat_3 (fun h3 => ?_) (fun h3 => ?_)
  · exfalso; omega
  · show zJW X 6 [(0, zF x)] [] M
    refine z_iconst (pc := 6) hc 0 dX6_bitsOfFloat_6 ?_
    exact z_iret (pc := 7) hc he rfl dX6_bitsOfFloat_7 (⟨rfl, rfl⟩)

theorem ct_X5_bitsOfShareA (M : Mem) (n h w : Int) (hh : 1 ≤ h ∧ h ≤ 12) (hw : 1 ≤ w ∧ w ≤ 12) (hn : 0 ≤ n ∧ n ≤ h * w) : zCt yX5_bitsOfShare KX5_bitsOfShare [zF (FP.fdiv (FP.i2f (iI n)) (FP.i2f (iI (h * w))))] M (fun zv zM => zv = some (zshA n (h * w)) ∧ zM = M) := by
  obtain ⟨-, h0, h1⟩ := zsh_H hh hw hn
  by_cases e : n = 0
  · have c := ct_X5_bitsOfShare0 M (zshS n (h * w)) (And.left (h0 e))
    unfold zshA
    rw [if_pos e]
    exact c
  · obtain ⟨p1, p2, N, hH, ha⟩ := h1 e
    have c := ct_X5_bitsOfShare M (zshS n (h * w)) N p1 hH
    rw [← ha] at c
    exact c

theorem ct_X6_bitsOfFloatA (M : Mem) (n h w : Int) (hh : 1 ≤ h ∧ h ≤ 12) (hw : 1 ≤ w ∧ w ≤ 12) (hn : 0 ≤ n ∧ n ≤ h * w) : zCt yX6_bitsOfFloat KX6_bitsOfFloat [zF (FP.fdiv (FP.i2f (iI n)) (FP.i2f (iI (h * w))))] M (fun zv zM => zv = some (zshA n (h * w)) ∧ zM = M) := by
  obtain ⟨-, h0, h1⟩ := zsh_H hh hw hn
  by_cases e : n = 0
  · have c := ct_X6_bitsOfFloat0 M (zshS n (h * w)) (And.right (h0 e))
    unfold zshA
    rw [if_pos e]
    exact c
  · obtain ⟨p1, p2, N, hH, ha⟩ := h1 e
    have c := ct_X6_bitsOfFloat M (zshS n (h * w)) N p2 hH
    rw [← ha] at c
    exact c

theorem lnT_bd {t : TS} (ht : 1 ≤ tH t ∧ tH t ≤ 12 ∧ 1 ≤ tW t ∧ tW t ≤ 12) : 0 ≤ lnT t ∧ lnT t ≤ tH t * tW t := by
  obtain ⟨t1, t2, t3, t4⟩ := ht
  have e := z2_flat t (fun r c n => n + zbz (laT t r c)) 0 (by omega) t3
  unfold lnT
  rw [← e]
  have h := zrep_le (f := fun (k : Nat) x => x + zbz (laT t ((k : Int) / tW t) ((k : Int) % tW t))) (b := 1) (n := (tH t * tW t).toNat) 0 (fun i _ x => by have := zbz_bd (laT t ((i : Int) / tW t) ((i : Int) % tW t)); omega)
  have := zhw t1 t2 t3 t4
  omega

set_option maxRecDepth 100000 in
set_option maxHeartbeats 4000000 in
theorem ct_X5_landShare (M : Mem) (hS : zSk M 0)  : zCt yX5_landShare KX5_landShare [zR 27] M (fun zv zM => zv = some (zshA (lnT (tsX M 0)) (M 0 0 * M 0 1)) ∧ zM = M) := by
  obtain ⟨hs1, hs2, hs3, hs4, hs5, hs6, hs7⟩ := id hS
  have hw9 := zhw hs1 hs2 hs3 hs4
  have hl9 : 0 ≤ lnT (tsX M 0) ∧ lnT (tsX M 0) ≤ M 0 0 * M 0 1 := lnT_bd (t := tsX M 0) ⟨hs1, hs2, hs3, hs4⟩
  have hf9 := (zsh_H ⟨hs1, hs2⟩ ⟨hs3, hs4⟩ hl9).1
  refine z_met (by decide) rfl (Nat.le_of_ble_eq_true rfl) (fun X hc he => ?_)
  show zJW X 0 [(0, zR 27)] [] M
  refine z_ald (pc := 0) hc 0 rfl dX5_landShare_0 ?_
  refine fg_X5_19 (pc := 1) hc rfl rfl dX5_landShare_1 ?_
  refine fg_X5_95 (pc := 4) hc rfl rfl (by decide) dX5_landShare_4 ?_
  refine z_ald (pc := 7) hc 0 rfl dX5_landShare_7 ?_
  refine fg_X5_19 (pc := 8) hc rfl rfl dX5_landShare_8 ?_
  refine fg_X5_99 (pc := 11) hc rfl rfl (by decide) dX5_landShare_11 ?_
  refine z_imul (pc := 14) hc dX5_landShare_14 ?_
  refine z_ist (pc := 15) (lv' := [(1, zI ((M 0 0) * (M 0 1))), (0, zR 27)]) hc rfl (by decide) dX5_landShare_15 ?_
  refine z_ild (pc := 16) hc 0 rfl dX5_landShare_16 ?_
  refine z_igt (pc := 17) (tgt := 24) hc (by omega) (by decide) dX5_landShare_17 (fun h17 => ?_) (fun h17 => ?_)
  · show zJW X 24 [(1, zI ((M 0 0) * (M 0 1))), (0, zR 27)] [] M
    refine z_ald (pc := 24) hc 1 rfl dX5_landShare_24 ?_
    refine fg_X5_19 (pc := 25) hc rfl rfl dX5_landShare_25 ?_
    refine kc_X5_165 (pc := 28) hc rfl (zfitX (by decide) rfl rfl) rfl (by decide) (Nat.le_of_ble_eq_true rfl) (ct_X3_landTiles M 0 (by omega) (by assumption)) dX5_landShare_28 ?_
    refine z_i2f (pc := 31) hc dX5_landShare_31 ?_
    refine z_ild (pc := 32) hc 0 rfl dX5_landShare_32 ?_
    refine z_i2f (pc := 33) hc dX5_landShare_33 ?_
    refine z_fdiv (pc := 34) hc (hf9) dX5_landShare_34 ?_
    refine kc_X5_168 (pc := 35) hc rfl (zfit0 (by decide) rfl rfl) (Nat.le_of_ble_eq_true rfl) (ct_X5_bitsOfShareA M (lnT (tsX M 0)) (M 0 0) (M 0 1) (by omega) (by omega) (by omega)) dX5_landShare_35 ?_
    exact z_iret (pc := 38) hc he rfl dX5_landShare_38 (⟨rfl, rfl⟩)
  · exfalso; omega

set_option maxRecDepth 100000 in
set_option maxHeartbeats 4000000 in
theorem ct_X6_landShare (M : Mem) (hZ : zRf (M 39))  : zCt yX6_landShare KX6_landShare [zR 38] M (fun zv zM => zv = some (zshA (lnT (tsZ (M 39))) (M 39 0 * M 39 1)) ∧ zM = M) := by
  obtain ⟨hs1, hs2, hs3, hs4, hs5, hs6, hs7⟩ := id hZ
  have hw9 := zhw hs1 hs2 hs3 hs4
  have hl9 : 0 ≤ lnT (tsZ (M 39)) ∧ lnT (tsZ (M 39)) ≤ M 39 0 * M 39 1 := lnT_bd (t := tsZ (M 39)) ⟨hs1, hs2, hs3, hs4⟩
  have hf9 := (zsh_H ⟨hs1, hs2⟩ ⟨hs3, hs4⟩ hl9).1
  refine z_met (by decide) rfl (Nat.le_of_ble_eq_true rfl) (fun X hc he => ?_)
  show zJW X 0 [(0, zR 38)] [] M
  refine z_ald (pc := 0) hc 0 rfl dX6_landShare_0 ?_
  refine kc_X6_73 (pc := 1) hc rfl (zfitX (by decide) rfl rfl) rfl (Nat.le_of_ble_eq_true rfl) (ct_X6_land M (by assumption) ) dX6_landShare_1 ?_
  refine z_i2f (pc := 4) hc dX6_landShare_4 ?_
  refine z_ald (pc := 5) hc 0 rfl dX6_landShare_5 ?_
  refine kc_X6_116 (pc := 6) hc rfl (zfitX (by decide) rfl rfl) rfl (Nat.le_of_ble_eq_true rfl) (ct_X6_tiles M) dX6_landShare_6 ?_
  refine z_i2f (pc := 9) hc dX6_landShare_9 ?_
  refine z_fdiv (pc := 10) hc (hf9) dX6_landShare_10 ?_
  refine kc_X6_156 (pc := 11) hc rfl (zfit0 (by decide) rfl rfl) (Nat.le_of_ble_eq_true rfl) (ct_X6_bitsOfFloatA M (lnT (tsZ (M 39))) (M 39 0) (M 39 1) (by omega) (by omega) (by omega)) dX6_landShare_11 ?_
  exact z_iret (pc := 14) hc he rfl dX6_landShare_14 (⟨rfl, rfl⟩)
