theorem ovX_stay {M : Mem} {l : Bool} {r c : Int} {e N : Nat} (h : ovX M l r c e N 33 2 ≤ N) (hN : N ≤ 144) : ovX M l r c e N = ovX M l r c e 144 := by
  have key : ∀ q : Nat, ovX M l r c e (N + q) = ovX M l r c e N := by
    intro q
    induction q with
    | zero => rfl
    | succ q ih =>
      show ovG l e (N + q) (ovX M l r c e (N + q)) = _
      rw [ih]
      exact if_neg (by omega)
  have := key (144 - N)
  rw [show N + (144 - N) = 144 by omega] at this
  exact this.symm
set_option maxRecDepth 100000 in
set_option maxHeartbeats 4000000 in
theorem ct_X2_overRegion (M : Mem) (hS : zSk M 0) (hv : ∀ z : Int, 0 ≤ z → z < 144 → -1 ≤ M 35 z ∧ M 35 z < 144) (r c : Int) (hi : inT (tsX M 0) r c = true) (e : Nat) (hee : e = 1 ∨ e = 2) : zCt yX2_overRegion KX2_overRegion [zR 33, zR 0, zI r, zI c, zI ((e : Nat) : Int)] M (fun zv zM => zv = none ∧ zM = (ovX M (laT (tsX M 0) r c) r c e 144)) := by
  obtain ⟨hs1, hs2, hs3, hs4, hs5, hs6, hs7⟩ := id hS
  have hi' := hi
  rw [inT_X] at hi'
  have hi' := of_decide_eq_true hi'
  have hS0 : zSk (ov0 M) 0 := zSk_congr (ov0_off (by decide)) (ov0_off (by decide)) (ov0_off (by decide)) hS
  have hv0 : ∀ z : Int, 0 ≤ z → z < 144 → -1 ≤ ov0 M 35 z ∧ ov0 M 35 z < 144 := fun z a b => by rw [ov0_off (by decide)]; exact hv z a b
  have hq0 : ov0 M 33 2 = 0 := by unfold ov0; rw [zup_off (by decide), zup_at]
  have hf0 : inT (tsX (ov0 M) 0) r c = true → ov0 M 35 (r * 12 + c) = -1 → ov0 M 33 2 < 144 := fun _ _ => by omega
  have p0 := ovX_P (r := r) (c := c) (e := e) hS hv 0
  have t0 : tsX (ov0 M) 0 = tsX M 0 := tsX_congr (ov0_off (by decide)) (ov0_off (by decide)) (ov0_off (by decide))
  have i0 : zbI (tsX M 0) (laT (tsX M 0) r c) (zbM (bsX (ov0 M)) 144) (zbR (tsX M 0) r c 0 (bsX (ov0 M))) := by
    have := p0.1.1
    rw [p0.2, t0] at this
    exact this
  obtain ⟨N, n1, n2, n3, n4⟩ := zbY_N (t := tsX M 0) (e := e) ⟨hs2, hs4⟩ i0
  have hst : (ovX M (laT (tsX M 0) r c) r c e N) = (ovX M (laT (tsX M 0) r c) r c e 144) := ovX_stay (by have p := ovX_P (r := r) (c := c) (e := e) hS hv N; rw [← p.2] at n3; have z : ((ovX M (laT (tsX M 0) r c) r c e N) 33 2).toNat ≤ N := n3; have := p.1.2.1; omega) n1
  refine z_met (by decide) rfl (Nat.le_of_ble_eq_true rfl) (fun X hc he => ?_)
  show zJW X 0 [(0, zR 33), (1, zR 0), (2, zI r), (3, zI c), (4, zI ((e : Nat) : Int))] [] M
  refine z_ald (pc := 0) hc 0 rfl dX2_overRegion_0 ?_
  refine z_iconst (pc := 1) hc 0 dX2_overRegion_1 ?_
  refine fp_X2_18 (pc := 2) hc rfl rfl dX2_overRegion_2 ?_
  refine z_ald (pc := 5) hc 0 rfl dX2_overRegion_5 ?_
  refine z_iconst (pc := 6) hc 0 dX2_overRegion_6 ?_
  refine fp_X2_22 (pc := 7) (b := false) hc rfl rfl dX2_overRegion_7 ?_
  show zJW X _ _ _ (ov0 M)
  refine z_ald (pc := 10) hc 0 rfl dX2_overRegion_10 ?_
  refine z_ald (pc := 11) hc 1 rfl dX2_overRegion_11 ?_
  refine z_ild (pc := 12) hc 2 rfl dX2_overRegion_12 ?_
  refine z_ild (pc := 13) hc 3 rfl dX2_overRegion_13 ?_
  refine z_iconst (pc := 14) hc 0 dX2_overRegion_14 ?_
  refine kc_X2_36 (pc := 15) hc rfl (zfitX (by decide) rfl rfl) rfl (Nat.le_of_ble_eq_true rfl) (ct_X2_reach (ov0 M) (by assumption) r c 0 (by omega) (by omega) (by assumption) (by first | assumption | omega) (by assumption)) dX2_overRegion_15 ?_
  refine z_iconst (pc := 18) hc 0 dX2_overRegion_18 ?_
  refine z_isw (pc := 19) (lv' := [(5, zI 0), (0, zR 33), (1, zR 0), (2, zI r), (3, zI c), (4, zI ((e : Nat) : Int))]) hc rfl (by decide) dX2_overRegion_19 ?_
  refine z_for N (fun i21 => [(5, zI ((i21 : Nat) : Int)), (0, zR 33), (1, zR 0), (2, zI r), (3, zI c), (4, zI ((e : Nat) : Int))]) (fun i21 => (ovX M (laT (tsX M 0) r c) r c e i21)) (by rfl) (by rfl) ?_ (fun i21 hi21 ih21 => ?_)
  · show zJW X 21 [(5, zI ((N : Nat) : Int)), (0, zR 33), (1, zR 0), (2, zI r), (3, zI c), (4, zI ((e : Nat) : Int))] [] (ovX M (laT (tsX M 0) r c) r c e N)
    have pN := ovX_P (r := r) (c := c) (e := e) hS hv N
    have hge : (ovX M (laT (tsX M 0) r c) r c e N) 33 2 ≤ N := by
      have q := n3
      rw [← pN.2] at q
      have z : ((ovX M (laT (tsX M 0) r c) r c e N) 33 2).toNat ≤ N := q
      have := pN.1.2.1
      omega
    have hpo := pN.1.2.1
    refine z_ilw (pc := 21) hc 0 rfl dX2_overRegion_21 ?_
    refine z_ald (pc := 23) hc 1 rfl dX2_overRegion_23 ?_
    refine fg_X2_18 (pc := 24) hc rfl rfl dX2_overRegion_24 ?_
    refine z_cge (pc := 27) (tgt := 58) hc (by omega) (by decide) dX2_overRegion_27 (fun h27 => ?_) (fun h27 => ?_)
    · show zJW X 58 [(5, zI ((N : Nat) : Int)), (0, zR 33), (1, zR 0), (2, zI r), (3, zI c), (4, zI ((e : Nat) : Int))] [] (ovX M (laT (tsX M 0) r c) r c e N)
      exact z_vret (pc := 58) hc he rfl dX2_overRegion_58 (⟨rfl, hst⟩)
    · exfalso; omega
  · show zJW X 21 [(5, zI ((i21 : Nat) : Int)), (0, zR 33), (1, zR 0), (2, zI r), (3, zI c), (4, zI ((e : Nat) : Int))] [] (ovX M (laT (tsX M 0) r c) r c e i21)
    have p21 := ovX_P (r := r) (c := c) (e := e) hS hv i21
    have hlt : (i21 : Int) < (ovX M (laT (tsX M 0) r c) r c e i21) 33 2 := by
      have q := n2 i21 hi21
      rw [← p21.2] at q
      have z : i21 < ((ovX M (laT (tsX M 0) r c) r c e i21) 33 2).toNat := q
      omega
    have hle : (ovX M (laT (tsX M 0) r c) r c e i21) 33 2 ≤ 144 := by
      have q := zbI_le p21.1.1
      have z : ((ovX M (laT (tsX M 0) r c) r c e i21) 33 2).toNat ≤ 144 := q
      omega
    refine z_ilw (pc := 21) hc 0 rfl dX2_overRegion_21 ?_
    refine z_ald (pc := 23) hc 1 rfl dX2_overRegion_23 ?_
    refine fg_X2_18 (pc := 24) hc rfl rfl dX2_overRegion_24 ?_
    refine z_cge (pc := 27) (tgt := 58) hc (by omega) (by decide) dX2_overRegion_27 (fun h27 => ?_) (fun h27 => ?_)
    · exfalso; omega
    · show zJW X 30 [(5, zI ((i21 : Nat) : Int)), (0, zR 33), (1, zR 0), (2, zI r), (3, zI c), (4, zI ((e : Nat) : Int))] [] (ovX M (laT (tsX M 0) r c) r c e i21)
      refine z_ilw (pc := 30) hc 0 rfl dX2_overRegion_30 ?_
      refine z_sipush (pc := 32) hc 144 (by decide) dX2_overRegion_32 ?_
      refine z_cge (pc := 35) (tgt := 58) hc (by omega) (by decide) dX2_overRegion_35 (fun h35 => ?_) (fun h35 => ?_)
      · exfalso; omega
      · show zJW X 38 [(5, zI ((i21 : Nat) : Int)), (0, zR 33), (1, zR 0), (2, zI r), (3, zI c), (4, zI ((e : Nat) : Int))] [] (ovX M (laT (tsX M 0) r c) r c e i21)
        refine z_ald (pc := 38) hc 1 rfl dX2_overRegion_38 ?_
        refine z_ald (pc := 39) hc 2 rfl dX2_overRegion_39 ?_
        refine z_ald (pc := 40) hc 1 rfl dX2_overRegion_40 ?_
        refine fg_X2_9 (pc := 41) hc rfl rfl dX2_overRegion_41 ?_
        refine z_ilw (pc := 44) hc 0 rfl dX2_overRegion_44 ?_
        refine z_iald (pc := 46) hc rfl rfl rfl (by decide) (by omega) dX2_overRegion_46 ?_
        refine z_ilw (pc := 47) hc 5 rfl dX2_overRegion_47 ?_
        refine kc_X2_40 (pc := 49) hc rfl (zfitX (by decide) rfl rfl) rfl (Nat.le_of_ble_eq_true rfl) (ct_X2_reachNeighbours (ov0 M) (ovX M (laT (tsX M 0) r c) r c e i21) (laT (tsX M 0) r c) (zbM (bsX (ov0 M)) 144) hS0 p21.1 i21 hlt e hee) dX2_overRegion_49 ?_
        refine z_iinc (pc := 52) (lv' := [(5, zI (((i21 : Nat) : Int) + 1)), (0, zR 33), (1, zR 0), (2, zI r), (3, zI c), (4, zI ((e : Nat) : Int))]) hc 0 rfl rfl (by decide) dX2_overRegion_52 ?_
        refine z_goto (pc := 55) (tgt := 21) hc (by decide) dX2_overRegion_55 ?_
        exact zJW_eq (by rfl) rfl (by exact (if_pos hlt).symm) ih21
