/-! ===== p40: the first map ===== -/
theorem zMI_t : tH (tsX zMI 0) = 8 ∧ tW (tsX zMI 0) = 8 ∧ tO (tsX zMI 0) = false := ⟨by decide, by decide, by decide⟩
theorem zMI_la (r c : Int) : laT (tsX zMI 0) r c = false := by
  unfold laT
  split
  · show (decide _ && decide (zMI 9 (r * 12 + c) = 1)) = false
    rw [show zMI 9 (r * 12 + c) = 0 from congrFun (zMI_st 0 (by decide)).2.1 _, Bool.and_eq_false_iff]
    exact Or.inr rfl
  · exact zMI_t.2.2
theorem zMI_pi (r c : Int) : piT (tsX zMI 0) r c = -1 := by
  unfold piT
  split
  · rename_i hi
    have hib := inT_bd hi
    rw [zMI_t.1, zMI_t.2.1] at hib
    show (if _ then zMI 18 (r * 12 + c) else -1) = -1
    rw [show zMI 18 = ziniP from (zMI_st 0 (by decide)).2.2, ziniP_at (by omega) (by omega)]
    split <;> rfl
  · rfl
theorem zMI_O : TOk (tsX zMI 0) := by
  refine ⟨by rw [zMI_t.1]; decide, by rw [zMI_t.1]; decide, by rw [zMI_t.2.1]; decide, by rw [zMI_t.2.1]; decide, fun r c => Or.inl (zMI_pi r c)⟩
theorem zMS_LI : p4LI (filM (zup (zup (zarn (zarn (zarn zMI 38) 39) 40) 40 0 8) 40 1 8) 39 36 16777215) (tsX zMI 0) := by
  have e38 : ∀ k : Nat, k < 38 → (filM (zup (zup (zarn (zarn (zarn zMI 38) 39) 40) 40 0 8) 40 1 8) 39 36 16777215) k = zMI k := fun k hk => by
    funext z
    show (if k = 39 ∧ 0 ≤ z ∧ z < 36 then (16777215 : Int) else if k = 40 ∧ z = 1 then 8 else if k = 40 ∧ z = 0 then 8 else if k = 40 then 0 else if k = 39 then 0 else if k = 38 then 0 else zMI k z) = zMI k z
    rw [if_neg (by omega), if_neg (by omega), if_neg (by omega), if_neg (by omega), if_neg (by omega), if_neg (by omega)]
  have h1 := p4Y_lo (M' := (filM (zup (zup (zarn (zarn (zarn zMI 38) 39) 40) 40 0 8) 40 1 8) 39 36 16777215)) ⟨zMI_XI, rfl⟩ e38
  refine ⟨h1.1, h1.2, zMI_O, fun r c a1 a2 a3 a4 => ?_, fun r c hi => ?_, ?_, ?_, ?_⟩
  · rw [zMI_t.1] at a2
    rw [zMI_t.2.1] at a4
    rw [laZ_bt (by omega), zMI_la]
    have e : (filM (zup (zup (zarn (zarn (zarn zMI 38) 39) 40) 40 0 8) 40 1 8) 39 36 16777215) 38 (r + 1) = 0 := rfl
    rw [e, zbt_0 _ (by omega)]
  · have hib := inT_bd hi
    rw [zMI_t.1, zMI_t.2.1] at hib
    have e : (filM (zup (zup (zarn (zarn (zarn zMI 38) 39) 40) 40 0 8) 40 1 8) 39 36 16777215) 39 (3 * r + c / 4) = 16777215 := if_pos ⟨rfl, by omega, by omega⟩
    obtain ⟨j, hj⟩ := Int.eq_ofNat_of_zero_le (show 0 ≤ c % 4 by omega)
    unfold piZ
    rw [e, hj, piZ_none0 j (by omega)]
    unfold pcT
    rw [if_pos (zMI_pi r c)]
  · rw [zMI_t.1]; rfl
  · rw [zMI_t.2.1]; rfl
  · rw [zMI_t.2.2]; rfl

set_option maxRecDepth 100000 in
set_option maxHeartbeats 4000000 in
theorem law_start {X0 X : CX} (hc : zCx (KL_law 38) X) (ha : zAl 43 0 0 X0 X) (hcap : zCap X0 3 53) (hn38 : zNI 38 X0) (hn39 : zNI 39 X0) (hn40 : zNI 40 X0) (hk : ∀ X : CX, zCx (KL_law 41) X → zAl 43 3 53 X0 X → zJW X 60 [(5, zI 0), (4, zR 40), (3, zR 39), (2, zR 38), (1, zR 27), (0, zR 60)] [] (filM (zup (zup (zarn (zarn (zarn zMI 38) 39) 40) 40 0 8) 40 1 8) 39 36 16777215)) : zJW X 8 [(1, zR 27), (0, zR 60)] [] zMI := by
  have hX32 : ∀ M' : Mem, M' 32 = zMI 32 → ∀ j : Int, 0 ≤ j → j < 5 → 3 ≤ M' 32 j ∧ M' 32 j ≤ 7 := fun M' e => by rw [e]; exact p4_32 zMI_XI
  refine z_bipush (pc := 8) hc 14 (by decide) dL_law_8 ?_
  refine z_newa (pc := 10) (K' := KL_law 39) (k := 38) (N := 14) hc ha ⟨rfl, rfl, rfl, rfl, rfl, rfl⟩ (fun i hi => by simp only [decide_eq_true_eq] at hi ⊢; omega) hn38 (by decide) ⟨by decide, by decide⟩ rfl rfl (by decide) (hcap.le (by omega) (by omega)) (List.mem_filter.mpr ⟨List.mem_of_getElem? (i := 51) (by decide +kernel), rfl⟩) (hX32 _ (by first | rfl | decide)) (zno_ok rfl) (zno_ok2 rfl) dL_law_10 (fun X hc ha => ?_)
  show zJW X 12 [(1, zR 27), (0, zR 60)] [zR 38] (zarn zMI 38)
  refine z_ast (pc := 12) (lv' := [(2, zR 38), (1, zR 27), (0, zR 60)]) hc rfl (Nat.le_of_ble_eq_true rfl) dL_law_12 ?_
  refine z_bipush (pc := 13) hc 36 (by decide) dL_law_13 ?_
  refine z_newa (pc := 15) (K' := KL_law 40) (k := 39) (N := 36) hc ha ⟨rfl, rfl, rfl, rfl, rfl, rfl⟩ (fun i hi => by simp only [decide_eq_true_eq] at hi ⊢; omega) hn39 (by decide) ⟨by decide, by decide⟩ rfl rfl (by decide) (hcap.le (by omega) (by omega)) (List.mem_filter.mpr ⟨List.mem_of_getElem? (i := 51) (by decide +kernel), rfl⟩) (hX32 _ (by first | rfl | decide)) (zno_ok rfl) (zno_ok2 rfl) dL_law_15 (fun X hc ha => ?_)
  show zJW X 17 [(2, zR 38), (1, zR 27), (0, zR 60)] [zR 39] (zarn (zarn zMI 38) 39)
  refine z_ast (pc := 17) (lv' := [(3, zR 39), (2, zR 38), (1, zR 27), (0, zR 60)]) hc rfl (Nat.le_of_ble_eq_true rfl) dL_law_17 ?_
  refine z_iconst (pc := 18) hc 3 dL_law_18 ?_
  refine z_newa (pc := 19) (K' := KL_law 41) (k := 40) (N := 3) hc ha ⟨rfl, rfl, rfl, rfl, rfl, rfl⟩ (fun i hi => by simp only [decide_eq_true_eq] at hi ⊢; omega) hn40 (by decide) ⟨by decide, by decide⟩ rfl rfl (by decide) (hcap.le (by omega) (by omega)) (List.mem_filter.mpr ⟨List.mem_of_getElem? (i := 51) (by decide +kernel), rfl⟩) (hX32 _ (by first | rfl | decide)) (zno_ok rfl) (zno_ok2 rfl) dL_law_19 (fun X hc ha => ?_)
  show zJW X 21 [(3, zR 39), (2, zR 38), (1, zR 27), (0, zR 60)] [zR 40] (zarn (zarn (zarn zMI 38) 39) 40)
  refine z_asw (pc := 21) (lv' := [(4, zR 40), (3, zR 39), (2, zR 38), (1, zR 27), (0, zR 60)]) hc rfl (Nat.le_of_ble_eq_true rfl) dL_law_21 ?_
  refine z_alw (pc := 23) hc 0 rfl dL_law_23 ?_
  refine z_iconst (pc := 25) hc 0 dL_law_25 ?_
  refine z_bipush (pc := 26) hc 8 (by decide) dL_law_26 ?_
  refine z_iast (pc := 28) hc (by decide) rfl rfl (by decide) (by omega) dL_law_28 ?_
  refine z_alw (pc := 29) hc 0 rfl dL_law_29 ?_
  refine z_iconst (pc := 31) hc 1 dL_law_31 ?_
  refine z_bipush (pc := 32) hc 8 (by decide) dL_law_32 ?_
  refine z_iast (pc := 34) hc (by decide) rfl rfl (by decide) (by omega) dL_law_34 ?_
  refine z_iconst (pc := 35) hc 0 dL_law_35 ?_
  refine z_isw (pc := 36) (lv' := [(5, zI 0), (4, zR 40), (3, zR 39), (2, zR 38), (1, zR 27), (0, zR 60)]) hc rfl (Nat.le_of_ble_eq_true rfl) dL_law_36 ?_
  refine z_for 36 (fun i38 => [(5, zI (i38 : Int)), (4, zR 40), (3, zR 39), (2, zR 38), (1, zR 27), (0, zR 60)]) (fun i38 => (filM (zup (zup (zarn (zarn (zarn zMI 38) 39) 40) 40 0 8) 40 1 8) 39 (i38 : Int) 16777215)) (by rfl) (by exact filM_0) ?_ (fun i38 hi38 ih38 => ?_)
  · show zJW X 38 [(5, zI (36 : Int)), (4, zR 40), (3, zR 39), (2, zR 38), (1, zR 27), (0, zR 60)] [] (filM (zup (zup (zarn (zarn (zarn zMI 38) 39) 40) 40 0 8) 40 1 8) 39 (36 : Int) 16777215)
    refine z_ilw (pc := 38) hc 0 rfl dL_law_38 ?_
    refine z_bipush (pc := 40) hc 36 (by decide) dL_law_40 ?_
    refine z_cge (pc := 42) (tgt := 57) hc (by omega) (by decide) dL_law_42 (fun h42 => ?_) (fun h42 => ?_)
    · show zJW X 57 [(5, zI (36 : Int)), (4, zR 40), (3, zR 39), (2, zR 38), (1, zR 27), (0, zR 60)] [] (filM (zup (zup (zarn (zarn (zarn zMI 38) 39) 40) 40 0 8) 40 1 8) 39 (36 : Int) 16777215)
      refine z_iconst (pc := 57) hc 0 dL_law_57 ?_
      refine z_isw (pc := 58) (lv' := [(5, zI 0), (4, zR 40), (3, zR 39), (2, zR 38), (1, zR 27), (0, zR 60)]) hc rfl (Nat.le_of_ble_eq_true rfl) dL_law_58 ?_
      exact hk X hc ha
    · exfalso; omega
  · show zJW X 38 [(5, zI (i38 : Int)), (4, zR 40), (3, zR 39), (2, zR 38), (1, zR 27), (0, zR 60)] [] (filM (zup (zup (zarn (zarn (zarn zMI 38) 39) 40) 40 0 8) 40 1 8) 39 (i38 : Int) 16777215)
    refine z_ilw (pc := 38) hc 0 rfl dL_law_38 ?_
    refine z_bipush (pc := 40) hc 36 (by decide) dL_law_40 ?_
    refine z_cge (pc := 42) (tgt := 57) hc (by omega) (by decide) dL_law_42 (fun h42 => ?_) (fun h42 => ?_)
    · exfalso; omega
    · show zJW X 45 [(5, zI (i38 : Int)), (4, zR 40), (3, zR 39), (2, zR 38), (1, zR 27), (0, zR 60)] [] (filM (zup (zup (zarn (zarn (zarn zMI 38) 39) 40) 40 0 8) 40 1 8) 39 (i38 : Int) 16777215)
      refine z_ald (pc := 45) hc 2 rfl dL_law_45 ?_
      refine z_ilw (pc := 46) hc 0 rfl dL_law_46 ?_
      refine z_ldc (pc := 48) hc 16777215 (List.mem_filter.mpr ⟨List.mem_of_getElem? (i := 512) (by decide +kernel), rfl⟩) dL_law_48 ?_
      refine z_iast (pc := 50) hc (by decide) rfl rfl (by decide) (by omega) dL_law_50 ?_
      refine z_iinc (pc := 51) (lv' := [(5, zI ((i38 : Int) + 1)), (4, zR 40), (3, zR 39), (2, zR 38), (1, zR 27), (0, zR 60)]) hc 0 rfl rfl (Nat.le_of_ble_eq_true rfl) dL_law_51 ?_
      refine z_goto (pc := 54) (tgt := 38) hc (by decide) dL_law_54 ?_
      exact zJW_eq (by rfl) rfl (by exact filM_s i38) ih38

set_option maxRecDepth 100000 in
set_option maxHeartbeats 4000000 in
theorem law_end {X : CX} {M : Mem} (hc : zCx (KL_law 41) X) (hk : zJW X 1482 [(5, zI ((26 : Nat) : Int)), (4, zR 40), (3, zR 39), (2, zR 38), (1, zR 27), (0, zR 60)] [zI 1] M) : zJW X 1481 [(5, zI ((26 : Nat) : Int)), (4, zR 40), (3, zR 39), (2, zR 38), (1, zR 27), (0, zR 60)] [] M := by
  refine z_iconst (pc := 1481) hc 1 dL_law_1481 ?_
  exact hk

