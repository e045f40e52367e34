theorem sxI_v {l : Bool} {m0 : Nat} {M0 M : Mem} (h : sxI l m0 M0 M) : ∀ z : Int, 0 ≤ z → z < 144 → -1 ≤ M 35 z ∧ M 35 z < 144 := by
  intro z a b
  have := h.1.2.2 (z / 12) (z % 12)
  have e : (bsX M).1 (z / 12) (z % 12) = M 35 z := by
    show (if 0 ≤ z / 12 ∧ z / 12 < 12 ∧ 0 ≤ z % 12 ∧ z % 12 < 12 then M 35 (z / 12 * 12 + z % 12) else -1) = _
    rw [if_pos (by omega), show z / 12 * 12 + z % 12 = z by omega]
  rw [e] at this
  exact this
theorem sxI_f {l : Bool} {m0 : Nat} {M0 M : Mem} (h : sxI l m0 M0 M) (hS : zSk M0 0) (r c : Int) : inT (tsX M 0) r c = true → M 35 (r * 12 + c) = -1 → M 33 2 < 144 := by
  intro hi hs
  have hS' := sxI_S h hS
  obtain ⟨a1, a2, a3, a4, -⟩ := hS'
  rw [inT_X] at hi
  have hb := of_decide_eq_true hi
  have e0 : (bsX M).1 r c = -1 := by
    show (if 0 ≤ r ∧ r < 12 ∧ 0 ≤ c ∧ c < 12 then M 35 (r * 12 + c) else -1) = _
    rw [if_pos (by omega), hs]
  have ha := zbM_add (s := bsX M) (s' := (fun r' c' => if r' = r ∧ c' = c then 0 else (bsX M).1 r' c', (bsX M).2)) (r := r) (c := c) hb.1 ⟨hb.2.2.1, by omega⟩ (fun r' c' n => if_neg n) e0 (by show (if r = r ∧ c = c then (0 : Int) else (bsX M).1 r c) ≠ -1; rw [if_pos ⟨rfl, rfl⟩]; omega) 144 (by omega)
  have hb2 := zbM_le (fun r' c' => if r' = r ∧ c' = c then 0 else (bsX M).1 r' c', (bsX M).2) 144
  have h1 : (M 33 2).toNat + m0 = zbM (bsX M) 144 := h.1.1
  omega
set_option maxRecDepth 100000 in
set_option maxHeartbeats 4000000 in
theorem ct_X2_reachNeighbours (M0 M : Mem) (l : Bool) (m0 : Nat) (hS0 : zSk M0 0) (hI : sxI l m0 M0 M) (i : Nat) (hi : (i : Int) < M 33 2) (e : Nat) (hee : e = 1 ∨ e = 2) : zCt yX2_reachNeighbours KX2_reachNeighbours [zR 33, zR 0, zI (M 34 (i : Int)), zI ((e : Nat) : Int)] M (fun zv zM => zv = none ∧ zM = nbX M l e i (8 / e)) := by
  have hS := sxI_S hI hS0
  have ht := sxI_ts hI
  have hp := hI.2.2.2.2 (i : Int) (by omega) hi
  have hg := hI.1.2.1 i (by show i < (M 33 2).toNat; have := hI.2.1; omega)
  rw [bsX_k hI hi, ← ht] at hg
  have hl : laT (tsX M 0) ((M 34 (i : Int)) / 12) ((M 34 (i : Int)) % 12) = l := hg.2.1
  have hk := hg.2.2
  have hc9 := hI.2.1
  have hn9 : M 33 2 ≤ 144 := by have := zbI_le hI.1; have z : (M 33 2).toNat ≤ 144 := this; omega
  refine z_met (by decide) rfl (Nat.le_of_ble_eq_true rfl) (fun X hc he => ?_)
  show zJW X 0 [(0, zR 33), (1, zR 0), (2, zI (M 34 (i : Int))), (3, zI ((e : Nat) : Int))] [] M
  refine z_ild (pc := 0) hc 2 rfl dX2_reachNeighbours_0 ?_
  refine z_bipush (pc := 1) hc 12 (by decide) dX2_reachNeighbours_1 ?_
  refine z_idiv (pc := 3) hc (by omega) dX2_reachNeighbours_3 ?_
  refine z_isw (pc := 4) (lv' := [(4, zI ((M 34 (i : Int)) / 12)), (0, zR 33), (1, zR 0), (2, zI (M 34 (i : Int))), (3, zI ((e : Nat) : Int))]) hc rfl (by decide) dX2_reachNeighbours_4 ?_
  refine z_ild (pc := 6) hc 3 rfl dX2_reachNeighbours_6 ?_
  refine z_bipush (pc := 7) hc 12 (by decide) dX2_reachNeighbours_7 ?_
  refine z_irem (pc := 9) hc (by omega) dX2_reachNeighbours_9 ?_
  refine z_isw (pc := 10) (lv' := [(5, zI ((M 34 (i : Int)) % 12)), (4, zI ((M 34 (i : Int)) / 12)), (0, zR 33), (1, zR 0), (2, zI (M 34 (i : Int))), (3, zI ((e : Nat) : Int))]) hc rfl (by decide) dX2_reachNeighbours_10 ?_
  refine z_ald (pc := 12) hc 3 rfl dX2_reachNeighbours_12 ?_
  refine z_ilw (pc := 13) hc 1 rfl dX2_reachNeighbours_13 ?_
  refine z_ilw (pc := 15) hc 0 rfl dX2_reachNeighbours_15 ?_
  refine kc_X2_44 (pc := 17) hc rfl (zfitX (by decide) rfl rfl) rfl (by decide) (Nat.le_of_ble_eq_true rfl) (ct_X3_isLandAt M 0 (by omega) (by first | assumption ) ((M 34 (i : Int)) / 12) ((M 34 (i : Int)) % 12) (by omega) (by omega)) dX2_reachNeighbours_17 ?_
  rw [hl]
  refine z_isw (pc := 20) (lv' := [(6, zI (zbz l)), (5, zI ((M 34 (i : Int)) % 12)), (4, zI ((M 34 (i : Int)) / 12)), (0, zR 33), (1, zR 0), (2, zI (M 34 (i : Int))), (3, zI ((e : Nat) : Int))]) hc rfl (by decide) dX2_reachNeighbours_20 ?_
  refine z_ald (pc := 22) hc 3 rfl dX2_reachNeighbours_22 ?_
  refine z_ilw (pc := 23) hc 2 rfl dX2_reachNeighbours_23 ?_
  refine z_ilw (pc := 25) hc 1 rfl dX2_reachNeighbours_25 ?_
  refine kc_X2_32 (pc := 27) hc rfl (zfitX (by decide) rfl rfl) rfl (Nat.le_of_ble_eq_true rfl) (ct_X2_stepsTo M ((M 34 (i : Int)) / 12) ((M 34 (i : Int)) % 12) (by omega) (by omega)) dX2_reachNeighbours_27 ?_
  rw [show (M 34 (i : Int)) / 12 * 12 + (M 34 (i : Int)) % 12 = (M 34 (i : Int)) by omega]
  refine z_iconst (pc := 30) hc 1 dX2_reachNeighbours_30 ?_
  refine z_iadd (pc := 31) hc dX2_reachNeighbours_31 ?_
  refine z_isw (pc := 32) (lv' := [(7, zI ((M 35 (M 34 (i : Int))) + 1)), (6, zI (zbz l)), (5, zI ((M 34 (i : Int)) % 12)), (4, zI ((M 34 (i : Int)) / 12)), (0, zR 33), (1, zR 0), (2, zI (M 34 (i : Int))), (3, zI ((e : Nat) : Int))]) hc rfl (by decide) dX2_reachNeighbours_32 ?_
  refine z_iconst (pc := 34) hc 0 dX2_reachNeighbours_34 ?_
  refine z_isw (pc := 35) (lv' := [(8, zI 0), (7, zI ((M 35 (M 34 (i : Int))) + 1)), (6, zI (zbz l)), (5, zI ((M 34 (i : Int)) % 12)), (4, zI ((M 34 (i : Int)) / 12)), (0, zR 33), (1, zR 0), (2, zI (M 34 (i : Int))), (3, zI ((e : Nat) : Int))]) hc rfl (by decide) dX2_reachNeighbours_35 ?_
  refine z_for (8 / e) (fun i37 => [(8, zI ((e * i37 : Nat) : Int)), (7, zI ((M 35 (M 34 (i : Int))) + 1)), (6, zI (zbz l)), (5, zI ((M 34 (i : Int)) % 12)), (4, zI ((M 34 (i : Int)) / 12)), (0, zR 33), (1, zR 0), (2, zI (M 34 (i : Int))), (3, zI ((e : Nat) : Int))]) (fun i37 => (nbX M l e i i37)) (by rfl) (by rfl) ?_ (fun i37 hi37 ih37 => ?_)
  · show zJW X 37 [(8, zI ((e * (8 / e) : Nat) : Int)), (7, zI ((M 35 (M 34 (i : Int))) + 1)), (6, zI (zbz l)), (5, zI ((M 34 (i : Int)) % 12)), (4, zI ((M 34 (i : Int)) / 12)), (0, zR 33), (1, zR 0), (2, zI (M 34 (i : Int))), (3, zI ((e : Nat) : Int))] [] (nbX M l e i (8 / e))
    have hd37 : e * (8 / e) = 8 := by rcases hee with h | h <;> subst h <;> decide
    refine z_ilw (pc := 37) hc 0 rfl dX2_reachNeighbours_37 ?_
    refine z_bipush (pc := 39) hc 8 (by decide) dX2_reachNeighbours_39 ?_
    refine z_cge (pc := 41) (tgt := 101) hc (by omega) (by decide) dX2_reachNeighbours_41 (fun h41 => ?_) (fun h41 => ?_)
    · show zJW X 101 [(8, zI ((e * (8 / e) : Nat) : Int)), (7, zI ((M 35 (M 34 (i : Int))) + 1)), (6, zI (zbz l)), (5, zI ((M 34 (i : Int)) % 12)), (4, zI ((M 34 (i : Int)) / 12)), (0, zR 33), (1, zR 0), (2, zI (M 34 (i : Int))), (3, zI ((e : Nat) : Int))] [] (nbX M l e i (8 / e))
      exact z_vret (pc := 101) hc he rfl dX2_reachNeighbours_101 (⟨rfl, rfl⟩)
    · exfalso; omega
  · show zJW X 37 [(8, zI ((e * i37 : Nat) : Int)), (7, zI ((M 35 (M 34 (i : Int))) + 1)), (6, zI (zbz l)), (5, zI ((M 34 (i : Int)) % 12)), (4, zI ((M 34 (i : Int)) / 12)), (0, zR 33), (1, zR 0), (2, zI (M 34 (i : Int))), (3, zI ((e : Nat) : Int))] [] (nbX M l e i i37)
    have hd37 : e * i37 < 8 := by rcases hee with h | h <;> subst h <;> omega
    have zr := zrow_bd ((e * i37 : Nat) : Int)
    have zc := zcol_bd ((e * i37 : Nat) : Int)
    obtain ⟨q1, q2, q3⟩ := nbX_P (e := e) hS0 hI hi i37
    have hQS := sxI_S q1 hS0
    have hQt : tsX (nbX M l e i i37) 0 = tsX M 0 := (sxI_ts q1).trans ht.symm
    have hQq : 0 ≤ (nbX M l e i i37) 33 2 ∧ (nbX M l e i i37) 33 2 ≤ 144 := ⟨q1.2.1, by have := zbI_le q1.1; have z : ((nbX M l e i i37) 33 2).toNat ≤ 144 := this; have := q1.2.1; omega⟩
    have hQv := sxI_v q1
    have hQf := sxI_f q1 hS0 ((M 34 (i : Int)) / 12 + zrow ((e * i37 : Nat) : Int)) ((M 34 (i : Int)) % 12 + zcol ((e * i37 : Nat) : Int))
    refine z_ilw (pc := 37) hc 0 rfl dX2_reachNeighbours_37 ?_
    refine z_bipush (pc := 39) hc 8 (by decide) dX2_reachNeighbours_39 ?_
    refine z_cge (pc := 41) (tgt := 101) hc (by omega) (by decide) dX2_reachNeighbours_41 (fun h41 => ?_) (fun h41 => ?_)
    · exfalso; omega
    · show zJW X 44 [(8, zI ((e * i37 : Nat) : Int)), (7, zI ((M 35 (M 34 (i : Int))) + 1)), (6, zI (zbz l)), (5, zI ((M 34 (i : Int)) % 12)), (4, zI ((M 34 (i : Int)) / 12)), (0, zR 33), (1, zR 0), (2, zI (M 34 (i : Int))), (3, zI ((e : Nat) : Int))] [] (nbX M l e i i37)
      refine z_ilw (pc := 44) hc 4 rfl dX2_reachNeighbours_44 ?_
      refine z_ilw (pc := 46) hc 0 rfl dX2_reachNeighbours_46 ?_
      refine kc_X2_50 (pc := 48) hc rfl (zfitS (by decide) rfl rfl) (Nat.le_of_ble_eq_true rfl) (ct_X5_rowStep (nbX M l e i i37) ((e * i37 : Nat) : Int) (by omega)) dX2_reachNeighbours_48 ?_
      refine z_iadd (pc := 51) hc dX2_reachNeighbours_51 ?_
      refine z_isw (pc := 52) (lv' := [(9, zI (((M 34 (i : Int)) / 12) + (zrow ((e * i37 : Nat) : Int)))), (8, zI ((e * i37 : Nat) : Int)), (7, zI ((M 35 (M 34 (i : Int))) + 1)), (6, zI (zbz l)), (5, zI ((M 34 (i : Int)) % 12)), (4, zI ((M 34 (i : Int)) / 12)), (0, zR 33), (1, zR 0), (2, zI (M 34 (i : Int))), (3, zI ((e : Nat) : Int))]) hc rfl (by decide) dX2_reachNeighbours_52 ?_
      refine z_ilw (pc := 54) hc 4 rfl dX2_reachNeighbours_54 ?_
      refine z_ilw (pc := 56) hc 1 rfl dX2_reachNeighbours_56 ?_
      refine kc_X2_54 (pc := 58) hc rfl (zfitS (by decide) rfl rfl) (Nat.le_of_ble_eq_true rfl) (ct_X5_columnStep (nbX M l e i i37) ((e * i37 : Nat) : Int) (by omega)) dX2_reachNeighbours_58 ?_
      refine z_iadd (pc := 61) hc dX2_reachNeighbours_61 ?_
      refine z_isw (pc := 62) (lv' := [(10, zI (((M 34 (i : Int)) % 12) + (zcol ((e * i37 : Nat) : Int)))), (9, zI (((M 34 (i : Int)) / 12) + (zrow ((e * i37 : Nat) : Int)))), (8, zI ((e * i37 : Nat) : Int)), (7, zI ((M 35 (M 34 (i : Int))) + 1)), (6, zI (zbz l)), (5, zI ((M 34 (i : Int)) % 12)), (4, zI ((M 34 (i : Int)) / 12)), (0, zR 33), (1, zR 0), (2, zI (M 34 (i : Int))), (3, zI ((e : Nat) : Int))]) hc rfl (by decide) dX2_reachNeighbours_62 ?_
      refine z_ald (pc := 64) hc 8 rfl dX2_reachNeighbours_64 ?_
      refine z_ilw (pc := 65) hc 1 rfl dX2_reachNeighbours_65 ?_
      refine z_ilw (pc := 67) hc 0 rfl dX2_reachNeighbours_67 ?_
      refine kc_X2_44 (pc := 69) hc rfl (zfitX (by decide) rfl rfl) rfl (by decide) (Nat.le_of_ble_eq_true rfl) (ct_X3_isLandAt (nbX M l e i i37) 0 (by omega) (by first | assumption ) (((M 34 (i : Int)) / 12) + (zrow ((e * i37 : Nat) : Int))) (((M 34 (i : Int)) % 12) + (zcol ((e * i37 : Nat) : Int))) (by omega) (by omega)) dX2_reachNeighbours_69 ?_
      rw [hQt]
      refine z_ilw (pc := 72) hc 4 rfl dX2_reachNeighbours_72 ?_
      refine z_cne (pc := 74) (tgt := 88) hc (by have := zbz_bd (laT (tsX M 0) ((M 34 (i : Int)) / 12 + zrow ((e * i37 : Nat) : Int)) ((M 34 (i : Int)) % 12 + zcol ((e * i37 : Nat) : Int))); have := zbz_bd l; omega) (by decide) dX2_reachNeighbours_74 (fun h74 => ?_) (fun h74 => ?_)
      · show zJW X 88 [(10, zI (((M 34 (i : Int)) % 12) + (zcol ((e * i37 : Nat) : Int)))), (9, zI (((M 34 (i : Int)) / 12) + (zrow ((e * i37 : Nat) : Int)))), (8, zI ((e * i37 : Nat) : Int)), (7, zI ((M 35 (M 34 (i : Int))) + 1)), (6, zI (zbz l)), (5, zI ((M 34 (i : Int)) % 12)), (4, zI ((M 34 (i : Int)) / 12)), (0, zR 33), (1, zR 0), (2, zI (M 34 (i : Int))), (3, zI ((e : Nat) : Int))] [] (nbX M l e i i37)
        refine z_ilw (pc := 88) hc 2 rfl dX2_reachNeighbours_88 ?_
        refine z_ild (pc := 90) hc 10 rfl dX2_reachNeighbours_90 ?_
        refine z_iconst (pc := 91) hc 1 dX2_reachNeighbours_91 ?_
        refine z_mmax (pc := 92) hc (List.mem_filter.mpr ⟨List.mem_of_getElem? (i := 300) (by decide +kernel), rfl⟩) (List.mem_filter.mpr ⟨List.mem_of_getElem? (i := 301) (by decide +kernel), rfl⟩) (List.mem_filter.mpr ⟨List.mem_of_getElem? (i := 19) (by decide +kernel), rfl⟩) (List.mem_filter.mpr ⟨List.mem_of_getElem? (i := 302) (by decide +kernel), rfl⟩) (by decide) (by omega) (Nat.le_of_ble_eq_true rfl) dX2_reachNeighbours_92 ?_
        refine z_iadd (pc := 95) hc dX2_reachNeighbours_95 ?_
        refine z_isw (pc := 96) (lv' := [(8, zI (((e * i37 : Nat) : Int) + (max ((e : Nat) : Int) 1))), (10, zI (((M 34 (i : Int)) % 12) + (zcol ((e * i37 : Nat) : Int)))), (9, zI (((M 34 (i : Int)) / 12) + (zrow ((e * i37 : Nat) : Int)))), (7, zI ((M 35 (M 34 (i : Int))) + 1)), (6, zI (zbz l)), (5, zI ((M 34 (i : Int)) % 12)), (4, zI ((M 34 (i : Int)) / 12)), (0, zR 33), (1, zR 0), (2, zI (M 34 (i : Int))), (3, zI ((e : Nat) : Int))]) hc rfl (by decide) dX2_reachNeighbours_96 ?_
        refine z_goto (pc := 98) (tgt := 37) hc (by decide) dX2_reachNeighbours_98 ?_
        refine zJW_sub (lv' := [(8, zI (((e * i37 : Nat) : Int) + (max ((e : Nat) : Int) 1))), (7, zI ((M 35 (M 34 (i : Int))) + 1)), (6, zI (zbz l)), (5, zI ((M 34 (i : Int)) % 12)), (4, zI ((M 34 (i : Int)) / 12)), (0, zR 33), (1, zR 0), (2, zI (M 34 (i : Int))), (3, zI ((e : Nat) : Int))]) [0, 3, 4, 5, 6, 7, 8, 9, 10] rfl ?_
        exact zJW_eq (by rcases hee with h | h <;> subst h <;> (try dsimp only) <;> (congr 3 <;> omega)) rfl (by first | (show _ = (if _ then _ else _); rw [if_pos (zbz_eq.mp h74)] <;> rfl) | (show _ = (if _ then _ else _); rw [if_neg (zbz_ne.mp h74)] <;> rfl)) ih37
      · show zJW X 77 [(10, zI (((M 34 (i : Int)) % 12) + (zcol ((e * i37 : Nat) : Int)))), (9, zI (((M 34 (i : Int)) / 12) + (zrow ((e * i37 : Nat) : Int)))), (8, zI ((e * i37 : Nat) : Int)), (7, zI ((M 35 (M 34 (i : Int))) + 1)), (6, zI (zbz l)), (5, zI ((M 34 (i : Int)) % 12)), (4, zI ((M 34 (i : Int)) / 12)), (0, zR 33), (1, zR 0), (2, zI (M 34 (i : Int))), (3, zI ((e : Nat) : Int))] [] (nbX M l e i i37)
        refine z_ald (pc := 77) hc 7 rfl dX2_reachNeighbours_77 ?_
        refine z_ald (pc := 78) hc 8 rfl dX2_reachNeighbours_78 ?_
        refine z_ilw (pc := 79) hc 1 rfl dX2_reachNeighbours_79 ?_
        refine z_ilw (pc := 81) hc 0 rfl dX2_reachNeighbours_81 ?_
        refine z_ilw (pc := 83) hc 3 rfl dX2_reachNeighbours_83 ?_
        refine kc_X2_36 (pc := 85) hc rfl (zfitX (by decide) rfl rfl) rfl (Nat.le_of_ble_eq_true rfl) (ct_X2_reach (nbX M l e i i37) (by assumption) (((M 34 (i : Int)) / 12) + (zrow ((e * i37 : Nat) : Int))) (((M 34 (i : Int)) % 12) + (zcol ((e * i37 : Nat) : Int))) ((M 35 (M 34 (i : Int))) + 1) (by omega) (by omega) (by assumption) (by first | assumption | omega) (by assumption)) dX2_reachNeighbours_85 ?_
        refine z_ilw (pc := 88) hc 2 rfl dX2_reachNeighbours_88 ?_
        refine z_ild (pc := 90) hc 10 rfl dX2_reachNeighbours_90 ?_
        refine z_iconst (pc := 91) hc 1 dX2_reachNeighbours_91 ?_
        refine z_mmax (pc := 92) hc (List.mem_filter.mpr ⟨List.mem_of_getElem? (i := 300) (by decide +kernel), rfl⟩) (List.mem_filter.mpr ⟨List.mem_of_getElem? (i := 301) (by decide +kernel), rfl⟩) (List.mem_filter.mpr ⟨List.mem_of_getElem? (i := 19) (by decide +kernel), rfl⟩) (List.mem_filter.mpr ⟨List.mem_of_getElem? (i := 302) (by decide +kernel), rfl⟩) (by decide) (by omega) (Nat.le_of_ble_eq_true rfl) dX2_reachNeighbours_92 ?_
        refine z_iadd (pc := 95) hc dX2_reachNeighbours_95 ?_
        refine z_isw (pc := 96) (lv' := [(8, zI (((e * i37 : Nat) : Int) + (max ((e : Nat) : Int) 1))), (10, zI (((M 34 (i : Int)) % 12) + (zcol ((e * i37 : Nat) : Int)))), (9, zI (((M 34 (i : Int)) / 12) + (zrow ((e * i37 : Nat) : Int)))), (7, zI ((M 35 (M 34 (i : Int))) + 1)), (6, zI (zbz l)), (5, zI ((M 34 (i : Int)) % 12)), (4, zI ((M 34 (i : Int)) / 12)), (0, zR 33), (1, zR 0), (2, zI (M 34 (i : Int))), (3, zI ((e : Nat) : Int))]) hc rfl (by decide) dX2_reachNeighbours_96 ?_
        refine z_goto (pc := 98) (tgt := 37) hc (by decide) dX2_reachNeighbours_98 ?_
        refine zJW_sub (lv' := [(8, zI (((e * i37 : Nat) : Int) + (max ((e : Nat) : Int) 1))), (7, zI ((M 35 (M 34 (i : Int))) + 1)), (6, zI (zbz l)), (5, zI ((M 34 (i : Int)) % 12)), (4, zI ((M 34 (i : Int)) / 12)), (0, zR 33), (1, zR 0), (2, zI (M 34 (i : Int))), (3, zI ((e : Nat) : Int))]) [0, 3, 4, 5, 6, 7, 8, 9, 10] rfl ?_
        exact zJW_eq (by rcases hee with h | h <;> subst h <;> (try dsimp only) <;> (congr 3 <;> omega)) rfl (by first | (show _ = (if _ then _ else _); rw [if_pos (zbz_eq.mp h74)] <;> rfl) | (show _ = (if _ then _ else _); rw [if_neg (zbz_ne.mp h74)] <;> rfl)) ih37
