theorem ct_become_la (M : Mem) (t : TS) (hF : p4F (M 38) t) (hO : TOk t) (r c : Int) (hi : inT t r c = true) (v : Bool) : zCt yL_become (KL_become 38 39) [zR 38, zR 39, zI r, zI c, zI (zbz v)] M (fun zv zM => zv = some (zbz (decide (laZ (M 38) r c = 1) != v)) ∧ zM = beM M r c v) := by
  rw [la_d1 hO hF hi]
  exact ct_L_become M t hF hO r c hi v
theorem stL_y {C V : Nat → Bool} {w : Int} {k : Nat} {s : Mem × Int} (h : C k = true) : stL C V w k s = (beM s.1 ((k : Int) / w) ((k : Int) % w) (V k), s.2 + zbz (decide (laZ (s.1 38) ((k : Int) / w) ((k : Int) % w) = 1) != V k)) := if_pos h
theorem stL_n {C V : Nat → Bool} {w : Int} {k : Nat} {s : Mem × Int} (h : C k = false) : stL C V w k s = s := if_neg (by rw [h]; decide)
set_option maxRecDepth 100000 in
set_option maxHeartbeats 4000000 in
theorem law_brush {X : CX} {M : Mem} {t : TS} (hc : zCx (KL_law 43) X) (hLI : p4LI M t) (h41 : p4F (M 41) t) (h42 : p4P (M 42) t) (e h kd r c : Int) (vb : Bool) (hi : inT t r c = true) (hJ : ∀ (M1 : Mem) (t1 : TS), p4LI M1 t1 → zJW X 1384 [(13, zI 1), (6, zI h), (5, zI e), (4, zR 40), (3, zR 39), (2, zR 38), (1, zR 27), (0, zR 60)] [] M1)  : zJW X 517 [(14, zI 0), (13, zI 1), (12, zR 42), (11, zR 41), (10, zI (zbz vb)), (9, zI c), (8, zI r), (7, zI kd), (6, zI h), (5, zI e), (4, zR 40), (3, zR 39), (2, zR 38), (1, zR 27), (0, zR 60)] [] M := by
  obtain ⟨hX, ht, hO, hM⟩ := id hLI
  obtain ⟨hF, hP, hT⟩ := id hM
  obtain ⟨hO1, hO2, hO3, hO4, hO5⟩ := id hO
  have hT1 := hT.1
  have hT2 := hT.2.1
  have hib := inT_bd hi
  have b1 := zan_bd (zsr h 15) (m := 2147483647) (by omega)
  obtain ⟨rad, hrad⟩ : ∃ n : Int, n = zan (zsr h 15) 2147483647 % 6 := ⟨_, rfl⟩
  have hrb : 0 ≤ rad ∧ rad ≤ 5 := by omega
  have hsq3 := sq_small (x := rad) (by omega)
  have zvb := zbz_bd vb
  have hw9 := zhw (h := M 40 0) (w := M 40 1) (by omega) (by omega) (by omega) (by omega)
  refine z_ilw (pc := 517) hc 8 rfl dL_law_517 ?_
  refine z_bipush (pc := 519) hc 15 (by decide) dL_law_519 ?_
  refine z_ishr (pc := 521) hc dL_law_521 ?_
  refine z_bipush (pc := 522) hc 6 (by decide) dL_law_522 ?_
  refine kc_L_73 (pc := 524) hc rfl (zfitG (Nat.le_of_ble_eq_true rfl) (fun i hi => by first | cases hi | (simp only [zflX, zfl0, Bool.or_eq_true, decide_eq_true_eq] at hi ⊢; omega)) (fun h => by first | rfl | cases h)) (Nat.le_of_ble_eq_true rfl) (ct_L_low M (zsr h 15) 6 (by omega)) dL_law_524 ?_
  refine z_isw (pc := 527) (lv' := [(15, zI (zan (zsr h 15) 2147483647 % 6)), (14, zI 0), (13, zI 1), (12, zR 42), (11, zR 41), (10, zI (zbz vb)), (9, zI c), (8, zI r), (7, zI kd), (6, zI h), (5, zI e), (4, zR 40), (3, zR 39), (2, zR 38), (1, zR 27), (0, zR 60)]) hc rfl (Nat.le_of_ble_eq_true rfl) dL_law_527 ?_
  refine zJW_eq (lv' := [(15, zI rad), (14, zI 0), (13, zI 1), (12, zR 42), (11, zR 41), (10, zI (zbz vb)), (9, zI c), (8, zI r), (7, zI kd), (6, zI h), (5, zI e), (4, zR 40), (3, zR 39), (2, zR 38), (1, zR 27), (0, zR 60)]) (by rw [hrad]) rfl rfl ?_
  refine z_iconst (pc := 529) hc 0 dL_law_529 ?_
  refine z_isw (pc := 530) (lv' := [(16, zI 0), (15, zI rad), (14, zI 0), (13, zI 1), (12, zR 42), (11, zR 41), (10, zI (zbz vb)), (9, zI c), (8, zI r), (7, zI kd), (6, zI h), (5, zI e), (4, zR 40), (3, zR 39), (2, zR 38), (1, zR 27), (0, zR 60)]) hc rfl (Nat.le_of_ble_eq_true rfl) dL_law_530 ?_
  refine z_for ((M 40 0 * M 40 1).toNat) (fun i532 => [(16, zI (i532 : Int)), (15, zI rad), (14, zI ((zrep (stL (brC (M 40 1) r c rad) (fun _ => vb) (M 40 1)) i532 (M, 0)).2)), (13, zI 1), (12, zR 42), (11, zR 41), (10, zI (zbz vb)), (9, zI c), (8, zI r), (7, zI kd), (6, zI h), (5, zI e), (4, zR 40), (3, zR 39), (2, zR 38), (1, zR 27), (0, zR 60)]) (fun i532 => (zrep (stL (brC (M 40 1) r c rad) (fun _ => vb) (M 40 1)) i532 (M, 0)).1) (by rfl) (by rfl) ?_ (fun i532 hi532 ih532 => ?_)
  · show zJW X 532 [(16, zI (((M 40 0 * M 40 1).toNat) : Int)), (15, zI rad), (14, zI ((zrep (stL (brC (M 40 1) r c rad) (fun _ => vb) (M 40 1)) ((M 40 0 * M 40 1).toNat) (M, 0)).2)), (13, zI 1), (12, zR 42), (11, zR 41), (10, zI (zbz vb)), (9, zI c), (8, zI r), (7, zI kd), (6, zI h), (5, zI e), (4, zR 40), (3, zR 39), (2, zR 38), (1, zR 27), (0, zR 60)] [] ((zrep (stL (brC (M 40 1) r c rad) (fun _ => vb) (M 40 1)) ((M 40 0 * M 40 1).toNat) (M, 0)).1)
    have hE : p4V t (fun _ _ => vb) M (zrep (stL (brC (M 40 1) r c rad) (fun _ => vb) (M 40 1)) (M 40 0 * M 40 1).toNat (M, 0)) (zdk r c rad) := by rw [hT1, hT2]; exact br_end hO hM
    have q40h : (zrep (stL (brC (M 40 1) r c rad) (fun _ => vb) (M 40 1)) (M 40 0 * M 40 1).toNat (M, 0)).1 40 = M 40 := hE.2.2.2 40 (by decide) (by decide)
    have hE2 := hE.2.1
    have hE3 := hE.2.2.1
    have hEb := tsVc_bd (t := t) (P := zdk r c rad) (v := (fun _ _ => vb)) hO
    have hXb := p4Y_lo (M' := (zrep (stL (brC (M 40 1) r c rad) (fun _ => vb) (M 40 1)) (M 40 0 * M 40 1).toNat (M, 0)).1) ⟨hX, ht⟩ (fun k hk => hE.2.2.2 k (by omega) (by omega))
    refine z_ilw (pc := 532) hc 0 rfl dL_law_532 ?_
    refine z_alw (pc := 534) hc 12 rfl dL_law_534 ?_
    refine z_iconst (pc := 536) hc 0 dL_law_536 ?_
    refine z_iald (pc := 537) hc (by decide) rfl rfl (by decide) (by omega) dL_law_537 ?_
    refine zJW_eq (st' := [zI (M 40 0), zI (((M 40 0 * M 40 1).toNat) : Int)]) rfl (by rw [q40h]) rfl ?_
    refine z_alw (pc := 538) hc 12 rfl dL_law_538 ?_
    refine z_iconst (pc := 540) hc 1 dL_law_540 ?_
    refine z_iald (pc := 541) hc (by decide) rfl rfl (by decide) (by omega) dL_law_541 ?_
    refine zJW_eq (st' := [zI (M 40 1), zI (M 40 0), zI (((M 40 0 * M 40 1).toNat) : Int)]) rfl (by rw [q40h]) rfl ?_
    refine z_imul (pc := 542) hc dL_law_542 ?_
    refine z_cge (pc := 543) (tgt := 625) hc (by omega) (by decide) dL_law_543 (fun h543 => ?_) (fun h543 => ?_)
    · show zJW X 625 [(16, zI (((M 40 0 * M 40 1).toNat) : Int)), (15, zI rad), (14, zI ((zrep (stL (brC (M 40 1) r c rad) (fun _ => vb) (M 40 1)) ((M 40 0 * M 40 1).toNat) (M, 0)).2)), (13, zI 1), (12, zR 42), (11, zR 41), (10, zI (zbz vb)), (9, zI c), (8, zI r), (7, zI kd), (6, zI h), (5, zI e), (4, zR 40), (3, zR 39), (2, zR 38), (1, zR 27), (0, zR 60)] [] ((zrep (stL (brC (M 40 1) r c rad) (fun _ => vb) (M 40 1)) ((M 40 0 * M 40 1).toNat) (M, 0)).1)
      refine z_ald (pc := 625) hc 15 rfl dL_law_625 ?_
      refine z_ilw (pc := 626) hc 8 rfl dL_law_626 ?_
      refine z_ilw (pc := 628) hc 7 rfl dL_law_628 ?_
      refine z_ilw (pc := 630) hc 1 rfl dL_law_630 ?_
      refine z_ilw (pc := 632) hc 6 rfl dL_law_632 ?_
      refine z_iconst (pc := 634) hc 1 dL_law_634 ?_
      have hJ643 : zJW X 643 [(16, zI (((M 40 0 * M 40 1).toNat) : Int)), (15, zI rad), (14, zI ((zrep (stL (brC (M 40 1) r c rad) (fun _ => vb) (M 40 1)) ((M 40 0 * M 40 1).toNat) (M, 0)).2)), (13, zI 1), (12, zR 42), (11, zR 41), (10, zI (zbz vb)), (9, zI c), (8, zI r), (7, zI kd), (6, zI h), (5, zI e), (4, zR 40), (3, zR 39), (2, zR 38), (1, zR 27), (0, zR 60)] [zI (zbz vb), zI rad, zI c, zI r, zR 27] ((zrep (stL (brC (M 40 1) r c rad) (fun _ => vb) (M 40 1)) ((M 40 0 * M 40 1).toNat) (M, 0)).1) := by
        refine kg_L_131 (pc := 643) hc rfl (zfitG (Nat.le_of_ble_eq_true rfl) (fun i hi => by first | cases hi | (simp only [zflX, zfl0, Bool.or_eq_true, decide_eq_true_eq] at hi ⊢; omega)) (fun h => by first | rfl | cases h)) (by rfl) (Nat.le_of_ble_eq_true rfl) (ct_X5_brush (zrep (stL (brC (M 40 1) r c rad) (fun _ => vb) (M 40 1)) (M 40 0 * M 40 1).toNat (M, 0)).1 hXb.1 r (by omega) c (by omega) rad (by omega) vb) dL_law_643 (fun zr M1 hq => ?_)
        obtain ⟨rfl, hY⟩ := qi_brush hXb.1 hXb.2 hi hrb hq
        have hM1 := p4M_hi hE.1 hY.2.2
        show zJW X 646 [(16, zI (((M 40 0 * M 40 1).toNat) : Int)), (15, zI rad), (14, zI ((zrep (stL (brC (M 40 1) r c rad) (fun _ => vb) (M 40 1)) ((M 40 0 * M 40 1).toNat) (M, 0)).2)), (13, zI 1), (12, zR 42), (11, zR 41), (10, zI (zbz vb)), (9, zI c), (8, zI r), (7, zI kd), (6, zI h), (5, zI e), (4, zR 40), (3, zR 39), (2, zR 38), (1, zR 27), (0, zR 60)] [zI (tsVc t (zdk r c rad) (fun _ _ => vb))] M1
        refine z_ilw (pc := 646) hc 2 rfl dL_law_646 ?_
        refine z_cne (pc := 648) (tgt := 655) hc (by omega) (by decide) dL_law_648 (fun h648 => ?_) (fun h648 => ?_)
        · exfalso; omega
        · show zJW X 651 [(16, zI (((M 40 0 * M 40 1).toNat) : Int)), (15, zI rad), (14, zI ((zrep (stL (brC (M 40 1) r c rad) (fun _ => vb) (M 40 1)) ((M 40 0 * M 40 1).toNat) (M, 0)).2)), (13, zI 1), (12, zR 42), (11, zR 41), (10, zI (zbz vb)), (9, zI c), (8, zI r), (7, zI kd), (6, zI h), (5, zI e), (4, zR 40), (3, zR 39), (2, zR 38), (1, zR 27), (0, zR 60)] [] M1
          refine z_iconst (pc := 651) hc 1 dL_law_651 ?_
          refine z_goto (pc := 652) (tgt := 656) hc (by decide) dL_law_652 ?_
          refine z_isw (pc := 656) (lv' := [(13, zI 1), (16, zI (((M 40 0 * M 40 1).toNat) : Int)), (15, zI rad), (14, zI ((zrep (stL (brC (M 40 1) r c rad) (fun _ => vb) (M 40 1)) ((M 40 0 * M 40 1).toNat) (M, 0)).2)), (12, zR 42), (11, zR 41), (10, zI (zbz vb)), (9, zI c), (8, zI r), (7, zI kd), (6, zI h), (5, zI e), (4, zR 40), (3, zR 39), (2, zR 38), (1, zR 27), (0, zR 60)]) hc rfl (Nat.le_of_ble_eq_true rfl) dL_law_656 ?_
          refine z_goto (pc := 658) (tgt := 1384) hc (by decide) dL_law_658 ?_
          refine zJW_sub (lv' := [(13, zI 1), (6, zI h), (5, zI e), (4, zR 40), (3, zR 39), (2, zR 38), (1, zR 27), (0, zR 60)]) [0, 10, 11, 12, 13, 14, 15, 16] rfl ?_
          exact hJ M1 _ ⟨hY.1, hY.2.1, hE3, hM1⟩
      refine z_cne (pc := 635) (tgt := 642) hc (by omega) (by decide) dL_law_635 (fun h635 => ?_) (fun h635 => ?_)
      · show zJW X 642 [(16, zI (((M 40 0 * M 40 1).toNat) : Int)), (15, zI rad), (14, zI ((zrep (stL (brC (M 40 1) r c rad) (fun _ => vb) (M 40 1)) ((M 40 0 * M 40 1).toNat) (M, 0)).2)), (13, zI 1), (12, zR 42), (11, zR 41), (10, zI (zbz vb)), (9, zI c), (8, zI r), (7, zI kd), (6, zI h), (5, zI e), (4, zR 40), (3, zR 39), (2, zR 38), (1, zR 27), (0, zR 60)] [zI rad, zI c, zI r, zR 27] ((zrep (stL (brC (M 40 1) r c rad) (fun _ => vb) (M 40 1)) ((M 40 0 * M 40 1).toNat) (M, 0)).1)
        refine z_iconst (pc := 642) hc 0 dL_law_642 ?_
        exact zJW_eq (by rfl) (by first | exact p4_zz1 h635 | exact p4_zz0 h635) (by rfl) hJ643
      · show zJW X 638 [(16, zI (((M 40 0 * M 40 1).toNat) : Int)), (15, zI rad), (14, zI ((zrep (stL (brC (M 40 1) r c rad) (fun _ => vb) (M 40 1)) ((M 40 0 * M 40 1).toNat) (M, 0)).2)), (13, zI 1), (12, zR 42), (11, zR 41), (10, zI (zbz vb)), (9, zI c), (8, zI r), (7, zI kd), (6, zI h), (5, zI e), (4, zR 40), (3, zR 39), (2, zR 38), (1, zR 27), (0, zR 60)] [zI rad, zI c, zI r, zR 27] ((zrep (stL (brC (M 40 1) r c rad) (fun _ => vb) (M 40 1)) ((M 40 0 * M 40 1).toNat) (M, 0)).1)
        refine z_iconst (pc := 638) hc 1 dL_law_638 ?_
        refine z_goto (pc := 639) (tgt := 643) hc (by decide) dL_law_639 ?_
        exact zJW_eq (by rfl) (by first | exact p4_zz1 h635 | exact p4_zz0 h635) (by rfl) hJ643
    · exfalso; omega
  · show zJW X 532 [(16, zI (i532 : Int)), (15, zI rad), (14, zI ((zrep (stL (brC (M 40 1) r c rad) (fun _ => vb) (M 40 1)) i532 (M, 0)).2)), (13, zI 1), (12, zR 42), (11, zR 41), (10, zI (zbz vb)), (9, zI c), (8, zI r), (7, zI kd), (6, zI h), (5, zI e), (4, zR 40), (3, zR 39), (2, zR 38), (1, zR 27), (0, zR 60)] [] ((zrep (stL (brC (M 40 1) r c rad) (fun _ => vb) (M 40 1)) i532 (M, 0)).1)
    have hk := zkx (h := M 40 0) (w := M 40 1) (k := (i532 : Int)) ⟨by omega, by omega⟩ (by omega)
    obtain ⟨p, hgp⟩ : ∃ p : Int, p = (i532 : Int) / M 40 1 := ⟨_, rfl⟩
    obtain ⟨q, hgq⟩ : ∃ q : Int, q = (i532 : Int) % M 40 1 := ⟨_, rfl⟩
    rw [← hgp, ← hgq] at hk
    have hpq : inT t p q = true := inT_of (by omega)
    have hpb := inT_bd hpq
    have hv := p4V_n (v := (fun _ _ => vb)) (C := (brC (M 40 1) r c rad)) (V := (fun _ => vb)) hO hM (by intro k _; first | rfl | (rw [← hT2])) i532 (by rw [← hT1, ← hT2]; omega)
    rw [← hT2] at hv
    have q40h : (zrep (stL (brC (M 40 1) r c rad) (fun _ => vb) (M 40 1)) i532 (M, 0)).1 40 = M 40 := hv.2.2.2 40 (by decide) (by decide)
    obtain ⟨sM, hsM⟩ : ∃ s : Mem × Int, s = (zrep (stL (brC (M 40 1) r c rad) (fun _ => vb) (M 40 1)) i532 (M, 0)) := ⟨_, rfl⟩
    rw [← hsM] at hv
    obtain ⟨hv1, hv2, hv3, hv4⟩ := hv
    have hpqV : inT (tsV t (p4P1 (brC (M 40 1) r c rad) (M 40 1) i532) (fun _ _ => vb)) p q = true := hpq
    have q40 : sM.1 40 = M 40 := hv4 40 (by decide) (by decide)
    have q41 : sM.1 41 = M 41 := hv4 41 (by decide) (by decide)
    have hla := la_d1 hv3 hv1.1 hpqV
    have hnb := tsVc_bd (t := t) (P := p4P1 (brC (M 40 1) r c rad) (M 40 1) i532) (v := (fun _ _ => vb)) hO
    rw [← hv2] at hnb
    have hsq1 := sq_small (x := p - r) (by omega)
    have hsq2 := sq_small (x := q - c) (by omega)
    have e_s : (zrep (stL (brC (M 40 1) r c rad) (fun _ => vb) (M 40 1)) (i532 + 1) (M, 0)) = stL (brC (M 40 1) r c rad) (fun _ => vb) (M 40 1) i532 sM := by rw [zrep_succ, hsM]
    refine z_ilw (pc := 532) hc 0 rfl dL_law_532 ?_
    refine z_alw (pc := 534) hc 12 rfl dL_law_534 ?_
    refine z_iconst (pc := 536) hc 0 dL_law_536 ?_
    refine z_iald (pc := 537) hc (by decide) rfl rfl (by decide) (by omega) dL_law_537 ?_
    refine zJW_eq (st' := [zI (M 40 0), zI (i532 : Int)]) rfl (by rw [q40h]) rfl ?_
    refine z_alw (pc := 538) hc 12 rfl dL_law_538 ?_
    refine z_iconst (pc := 540) hc 1 dL_law_540 ?_
    refine z_iald (pc := 541) hc (by decide) rfl rfl (by decide) (by omega) dL_law_541 ?_
    refine zJW_eq (st' := [zI (M 40 1), zI (M 40 0), zI (i532 : Int)]) rfl (by rw [q40h]) rfl ?_
    refine z_imul (pc := 542) hc dL_law_542 ?_
    refine z_cge (pc := 543) (tgt := 625) hc (by omega) (by decide) dL_law_543 (fun h543 => ?_) (fun h543 => ?_)
    · exfalso; omega
    · show zJW X 546 [(16, zI (i532 : Int)), (15, zI rad), (14, zI ((zrep (stL (brC (M 40 1) r c rad) (fun _ => vb) (M 40 1)) i532 (M, 0)).2)), (13, zI 1), (12, zR 42), (11, zR 41), (10, zI (zbz vb)), (9, zI c), (8, zI r), (7, zI kd), (6, zI h), (5, zI e), (4, zR 40), (3, zR 39), (2, zR 38), (1, zR 27), (0, zR 60)] [] ((zrep (stL (brC (M 40 1) r c rad) (fun _ => vb) (M 40 1)) i532 (M, 0)).1)
      refine zJW_eq (lv' := [(16, zI (i532 : Int)), (15, zI rad), (14, zI sM.2), (13, zI 1), (12, zR 42), (11, zR 41), (10, zI (zbz vb)), (9, zI c), (8, zI r), (7, zI kd), (6, zI h), (5, zI e), (4, zR 40), (3, zR 39), (2, zR 38), (1, zR 27), (0, zR 60)]) (M' := sM.1) (by rw [hsM]) rfl (by rw [hsM]) ?_
      refine z_ilw (pc := 546) hc 0 rfl dL_law_546 ?_
      refine z_alw (pc := 548) hc 12 rfl dL_law_548 ?_
      refine z_iconst (pc := 550) hc 1 dL_law_550 ?_
      refine z_iald (pc := 551) hc (by decide) rfl rfl (by decide) (by omega) dL_law_551 ?_
      refine zJW_eq (st' := [zI (M 40 1), zI (i532 : Int)]) rfl (by rw [q40]) rfl ?_
      refine z_idiv (pc := 552) hc (by omega) dL_law_552 ?_
      refine z_ilw (pc := 553) hc 8 rfl dL_law_553 ?_
      refine z_isub (pc := 555) hc dL_law_555 ?_
      refine z_isw (pc := 556) (lv' := [(17, zI (((i532 : Int) / (M 40 1)) - r)), (16, zI (i532 : Int)), (15, zI rad), (14, zI sM.2), (13, zI 1), (12, zR 42), (11, zR 41), (10, zI (zbz vb)), (9, zI c), (8, zI r), (7, zI kd), (6, zI h), (5, zI e), (4, zR 40), (3, zR 39), (2, zR 38), (1, zR 27), (0, zR 60)]) hc rfl (Nat.le_of_ble_eq_true rfl) dL_law_556 ?_
      refine z_ilw (pc := 558) hc 1 rfl dL_law_558 ?_
      refine z_alw (pc := 560) hc 13 rfl dL_law_560 ?_
      refine z_iconst (pc := 562) hc 1 dL_law_562 ?_
      refine z_iald (pc := 563) hc (by decide) rfl rfl (by decide) (by omega) dL_law_563 ?_
      refine zJW_eq (st' := [zI (M 40 1), zI (i532 : Int)]) rfl (by rw [q40]) rfl ?_
      refine z_irem (pc := 564) hc (by omega) dL_law_564 ?_
      refine z_ilw (pc := 565) hc 8 rfl dL_law_565 ?_
      refine z_isub (pc := 567) hc dL_law_567 ?_
      refine z_isw (pc := 568) (lv' := [(18, zI (((i532 : Int) % (M 40 1)) - c)), (17, zI (((i532 : Int) / (M 40 1)) - r)), (16, zI (i532 : Int)), (15, zI rad), (14, zI sM.2), (13, zI 1), (12, zR 42), (11, zR 41), (10, zI (zbz vb)), (9, zI c), (8, zI r), (7, zI kd), (6, zI h), (5, zI e), (4, zR 40), (3, zR 39), (2, zR 38), (1, zR 27), (0, zR 60)]) hc rfl (Nat.le_of_ble_eq_true rfl) dL_law_568 ?_
      refine zJW_eq (lv' := [(18, zI (q - c)), (17, zI (p - r)), (16, zI (i532 : Int)), (15, zI rad), (14, zI sM.2), (13, zI 1), (12, zR 42), (11, zR 41), (10, zI (zbz vb)), (9, zI c), (8, zI r), (7, zI kd), (6, zI h), (5, zI e), (4, zR 40), (3, zR 39), (2, zR 38), (1, zR 27), (0, zR 60)]) (by rw [hgp, hgq]) rfl rfl ?_
      refine z_ilw (pc := 570) hc 4 rfl dL_law_570 ?_
      refine z_ilw (pc := 572) hc 1 rfl dL_law_572 ?_
      refine z_ilw (pc := 574) hc 1 rfl dL_law_574 ?_
      refine z_imul (pc := 576) hc dL_law_576 ?_
      refine z_ilw (pc := 577) hc 0 rfl dL_law_577 ?_
      refine z_ilw (pc := 579) hc 0 rfl dL_law_579 ?_
      refine z_imul (pc := 581) hc dL_law_581 ?_
      refine z_iadd (pc := 582) hc dL_law_582 ?_
      refine z_ilw (pc := 583) hc 3 rfl dL_law_583 ?_
      refine z_ilw (pc := 585) hc 3 rfl dL_law_585 ?_
      refine z_imul (pc := 587) hc dL_law_587 ?_
      refine z_cle (pc := 588) (tgt := 595) hc (by omega) (by decide) dL_law_588 (fun h588 => ?_) (fun h588 => ?_)
      · show zJW X 595 [(18, zI (q - c)), (17, zI (p - r)), (16, zI (i532 : Int)), (15, zI rad), (14, zI sM.2), (13, zI 1), (12, zR 42), (11, zR 41), (10, zI (zbz vb)), (9, zI c), (8, zI r), (7, zI kd), (6, zI h), (5, zI e), (4, zR 40), (3, zR 39), (2, zR 38), (1, zR 27), (0, zR 60)] [zI sM.2] sM.1
        refine z_ald (pc := 595) hc 16 rfl dL_law_595 ?_
        refine z_ald (pc := 596) hc 15 rfl dL_law_596 ?_
        refine z_ilw (pc := 597) hc 2 rfl dL_law_597 ?_
        refine z_alw (pc := 599) hc 14 rfl dL_law_599 ?_
        refine z_iconst (pc := 601) hc 1 dL_law_601 ?_
        refine z_iald (pc := 602) hc (by decide) rfl rfl (by decide) (by omega) dL_law_602 ?_
        refine zJW_eq (st' := [zI (M 40 1), zI (i532 : Int), zR 39, zR 38, zI sM.2]) rfl (by rw [q40]) rfl ?_
        refine z_idiv (pc := 603) hc (by omega) dL_law_603 ?_
        refine z_ilw (pc := 604) hc 2 rfl dL_law_604 ?_
        refine z_alw (pc := 606) hc 14 rfl dL_law_606 ?_
        refine z_iconst (pc := 608) hc 1 dL_law_608 ?_
        refine z_iald (pc := 609) hc (by decide) rfl rfl (by decide) (by omega) dL_law_609 ?_
        refine zJW_eq (st' := [zI (M 40 1), zI (i532 : Int), zI ((i532 : Int) / (M 40 1)), zR 39, zR 38, zI sM.2]) rfl (by rw [q40]) rfl ?_
        refine z_irem (pc := 610) hc (by omega) dL_law_610 ?_
        refine zJW_eq (st' := [zI q, zI p, zR 39, zR 38, zI sM.2]) rfl (by rw [hgp, hgq]) rfl ?_
        refine z_ilw (pc := 611) hc 8 rfl dL_law_611 ?_
        refine kc_L_117 (pc := 613) hc rfl (zfitG (Nat.le_of_ble_eq_true rfl) (fun i hi => by first | cases hi | (simp only [zflX, zfl0, Bool.or_eq_true, decide_eq_true_eq] at hi ⊢; omega)) (fun h => by first | rfl | cases h)) (Nat.le_of_ble_eq_true rfl) (ct_become_la sM.1 (tsV t (p4P1 (brC (M 40 1) r c rad) (M 40 1) i532) (fun _ _ => vb)) hv1.1 hv3 p q hpqV vb) dL_law_613 ?_
        refine z_iadd (pc := 616) hc dL_law_616 ?_
        refine z_isw (pc := 617) (lv' := [(14, zI (sM.2 + (zbz (decide (laZ (sM.1 38) p q = 1) != vb)))), (18, zI (q - c)), (17, zI (p - r)), (16, zI (i532 : Int)), (15, zI rad), (13, zI 1), (12, zR 42), (11, zR 41), (10, zI (zbz vb)), (9, zI c), (8, zI r), (7, zI kd), (6, zI h), (5, zI e), (4, zR 40), (3, zR 39), (2, zR 38), (1, zR 27), (0, zR 60)]) hc rfl (Nat.le_of_ble_eq_true rfl) dL_law_617 ?_
        refine z_iinc (pc := 619) (lv' := [(16, zI ((i532 : Int) + 1)), (14, zI (sM.2 + (zbz (decide (laZ (sM.1 38) p q = 1) != vb)))), (18, zI (q - c)), (17, zI (p - r)), (15, zI rad), (13, zI 1), (12, zR 42), (11, zR 41), (10, zI (zbz vb)), (9, zI c), (8, zI r), (7, zI kd), (6, zI h), (5, zI e), (4, zR 40), (3, zR 39), (2, zR 38), (1, zR 27), (0, zR 60)]) hc 3 rfl rfl (Nat.le_of_ble_eq_true rfl) dL_law_619 ?_
        refine z_goto (pc := 622) (tgt := 532) hc (by decide) dL_law_622 ?_
        refine zJW_sub (lv' := [(16, zI ((i532 : Int) + 1)), (15, zI rad), (14, zI (sM.2 + (zbz (decide (laZ (sM.1 38) p q = 1) != vb)))), (13, zI 1), (12, zR 42), (11, zR 41), (10, zI (zbz vb)), (9, zI c), (8, zI r), (7, zI kd), (6, zI h), (5, zI e), (4, zR 40), (3, zR 39), (2, zR 38), (1, zR 27), (0, zR 60)]) [0, 4, 1, 5, 6, 7, 8, 9, 10, 11, 12, 13, 14, 15, 16, 17, 18] rfl ?_
        exact zJW_eq (by first | (rw [e_s, stL_y (show brC (M 40 1) r c rad i532 = true from decide_eq_true (by rw [← hgp, ← hgq]; exact h588)), ← hgp, ← hgq] <;> rfl) | (rw [e_s, stL_n (show brC (M 40 1) r c rad i532 = false from decide_eq_false (by rw [← hgp, ← hgq]; exact Int.not_le.mpr h588)), Int.add_zero] <;> rfl)) rfl (by first | (rw [e_s, stL_y (show brC (M 40 1) r c rad i532 = true from decide_eq_true (by rw [← hgp, ← hgq]; exact h588)), ← hgp, ← hgq] <;> rfl) | (rw [e_s, stL_n (show brC (M 40 1) r c rad i532 = false from decide_eq_false (by rw [← hgp, ← hgq]; exact Int.not_le.mpr h588))] <;> rfl)) ih532
      · show zJW X 591 [(18, zI (q - c)), (17, zI (p - r)), (16, zI (i532 : Int)), (15, zI rad), (14, zI sM.2), (13, zI 1), (12, zR 42), (11, zR 41), (10, zI (zbz vb)), (9, zI c), (8, zI r), (7, zI kd), (6, zI h), (5, zI e), (4, zR 40), (3, zR 39), (2, zR 38), (1, zR 27), (0, zR 60)] [zI sM.2] sM.1
        refine z_iconst (pc := 591) hc 0 dL_law_591 ?_
        refine z_goto (pc := 592) (tgt := 616) hc (by decide) dL_law_592 ?_
        refine z_iadd (pc := 616) hc dL_law_616 ?_
        refine z_isw (pc := 617) (lv' := [(14, zI (sM.2 + 0)), (18, zI (q - c)), (17, zI (p - r)), (16, zI (i532 : Int)), (15, zI rad), (13, zI 1), (12, zR 42), (11, zR 41), (10, zI (zbz vb)), (9, zI c), (8, zI r), (7, zI kd), (6, zI h), (5, zI e), (4, zR 40), (3, zR 39), (2, zR 38), (1, zR 27), (0, zR 60)]) hc rfl (Nat.le_of_ble_eq_true rfl) dL_law_617 ?_
        refine z_iinc (pc := 619) (lv' := [(16, zI ((i532 : Int) + 1)), (14, zI (sM.2 + 0)), (18, zI (q - c)), (17, zI (p - r)), (15, zI rad), (13, zI 1), (12, zR 42), (11, zR 41), (10, zI (zbz vb)), (9, zI c), (8, zI r), (7, zI kd), (6, zI h), (5, zI e), (4, zR 40), (3, zR 39), (2, zR 38), (1, zR 27), (0, zR 60)]) hc 3 rfl rfl (Nat.le_of_ble_eq_true rfl) dL_law_619 ?_
        refine z_goto (pc := 622) (tgt := 532) hc (by decide) dL_law_622 ?_
        refine zJW_sub (lv' := [(16, zI ((i532 : Int) + 1)), (15, zI rad), (14, zI (sM.2 + 0)), (13, zI 1), (12, zR 42), (11, zR 41), (10, zI (zbz vb)), (9, zI c), (8, zI r), (7, zI kd), (6, zI h), (5, zI e), (4, zR 40), (3, zR 39), (2, zR 38), (1, zR 27), (0, zR 60)]) [0, 4, 1, 5, 6, 7, 8, 9, 10, 11, 12, 13, 14, 15, 16, 17, 18] rfl ?_
        exact zJW_eq (by first | (rw [e_s, stL_y (show brC (M 40 1) r c rad i532 = true from decide_eq_true (by rw [← hgp, ← hgq]; exact h588)), ← hgp, ← hgq] <;> rfl) | (rw [e_s, stL_n (show brC (M 40 1) r c rad i532 = false from decide_eq_false (by rw [← hgp, ← hgq]; exact Int.not_le.mpr h588)), Int.add_zero] <;> rfl)) rfl (by first | (rw [e_s, stL_y (show brC (M 40 1) r c rad i532 = true from decide_eq_true (by rw [← hgp, ← hgq]; exact h588)), ← hgp, ← hgq] <;> rfl) | (rw [e_s, stL_n (show brC (M 40 1) r c rad i532 = false from decide_eq_false (by rw [← hgp, ← hgq]; exact Int.not_le.mpr h588))] <;> rfl)) ih532

set_option maxRecDepth 100000 in
set_option maxHeartbeats 4000000 in
theorem law_smooth {X : CX} {M : Mem} {t : TS} (hc : zCx (KL_law 43) X) (hLI : p4LI M t) (h41 : p4F (M 41) t) (h42 : p4P (M 42) t) (e h kd r c : Int) (vb : Bool) (hi : inT t r c = true) (hJ : ∀ (M1 : Mem) (t1 : TS), p4LI M1 t1 → zJW X 1384 [(13, zI 1), (6, zI h), (5, zI e), (4, zR 40), (3, zR 39), (2, zR 38), (1, zR 27), (0, zR 60)] [] M1)  : zJW X 668 [(14, zI 0), (13, zI 1), (12, zR 42), (11, zR 41), (10, zI (zbz vb)), (9, zI c), (8, zI r), (7, zI kd), (6, zI h), (5, zI e), (4, zR 40), (3, zR 39), (2, zR 38), (1, zR 27), (0, zR 60)] [] M := by
  obtain ⟨hX, ht, hO, hM⟩ := id hLI
  obtain ⟨hF, hP, hT⟩ := id hM
  obtain ⟨hO1, hO2, hO3, hO4, hO5⟩ := id hO
  have hT1 := hT.1
  have hT2 := hT.2.1
  have hib := inT_bd hi
  have b1 := zan_bd (zsr h 15) (m := 2147483647) (by omega)
  obtain ⟨least, hlst⟩ : ∃ n : Int, n = 1 + zan (zsr h 15) 2147483647 % 9 := ⟨_, rfl⟩
  have hlb : 1 ≤ least ∧ least ≤ 9 := by omega
  have hw9 := zhw (h := M 40 0) (w := M 40 1) (by omega) (by omega) (by omega) (by omega)
  refine z_iconst (pc := 668) hc 1 dL_law_668 ?_
  refine z_ilw (pc := 669) hc 8 rfl dL_law_669 ?_
  refine z_bipush (pc := 671) hc 15 (by decide) dL_law_671 ?_
  refine z_ishr (pc := 673) hc dL_law_673 ?_
  refine z_bipush (pc := 674) hc 9 (by decide) dL_law_674 ?_
  refine kc_L_73 (pc := 676) hc rfl (zfitG (Nat.le_of_ble_eq_true rfl) (fun i hi => by first | cases hi | (simp only [zflX, zfl0, Bool.or_eq_true, decide_eq_true_eq] at hi ⊢; omega)) (fun h => by first | rfl | cases h)) (Nat.le_of_ble_eq_true rfl) (ct_L_low M (zsr h 15) 9 (by omega)) dL_law_676 ?_
  refine z_iadd (pc := 679) hc dL_law_679 ?_
  refine z_isw (pc := 680) (lv' := [(15, zI (1 + (zan (zsr h 15) 2147483647 % 9))), (14, zI 0), (13, zI 1), (12, zR 42), (11, zR 41), (10, zI (zbz vb)), (9, zI c), (8, zI r), (7, zI kd), (6, zI h), (5, zI e), (4, zR 40), (3, zR 39), (2, zR 38), (1, zR 27), (0, zR 60)]) hc rfl (Nat.le_of_ble_eq_true rfl) dL_law_680 ?_
  refine zJW_eq (lv' := [(15, zI least), (14, zI 0), (13, zI 1), (12, zR 42), (11, zR 41), (10, zI (zbz vb)), (9, zI c), (8, zI r), (7, zI kd), (6, zI h), (5, zI e), (4, zR 40), (3, zR 39), (2, zR 38), (1, zR 27), (0, zR 60)]) (by rw [hlst]) rfl rfl ?_
  refine z_iconst (pc := 682) hc 0 dL_law_682 ?_
  refine z_isw (pc := 683) (lv' := [(16, zI 0), (15, zI least), (14, zI 0), (13, zI 1), (12, zR 42), (11, zR 41), (10, zI (zbz vb)), (9, zI c), (8, zI r), (7, zI kd), (6, zI h), (5, zI e), (4, zR 40), (3, zR 39), (2, zR 38), (1, zR 27), (0, zR 60)]) hc rfl (Nat.le_of_ble_eq_true rfl) dL_law_683 ?_
  refine z_for ((M 40 0 * M 40 1).toNat) (fun i685 => [(16, zI (i685 : Int)), (15, zI least), (14, zI ((zrep (stL (fun _ => true) (fun k : Nat => decide (least ≤ bcZ (arT t ((k : Int) / M 40 1) ((k : Int) % M 40 1)) + zbz (laT t ((k : Int) / M 40 1) ((k : Int) % M 40 1)))) (M 40 1)) i685 (M, 0)).2)), (13, zI 1), (12, zR 42), (11, zR 41), (10, zI (zbz vb)), (9, zI c), (8, zI r), (7, zI kd), (6, zI h), (5, zI e), (4, zR 40), (3, zR 39), (2, zR 38), (1, zR 27), (0, zR 60)]) (fun i685 => (zrep (stL (fun _ => true) (fun k : Nat => decide (least ≤ bcZ (arT t ((k : Int) / M 40 1) ((k : Int) % M 40 1)) + zbz (laT t ((k : Int) / M 40 1) ((k : Int) % M 40 1)))) (M 40 1)) i685 (M, 0)).1) (by rfl) (by rfl) ?_ (fun i685 hi685 ih685 => ?_)
  · show zJW X 685 [(16, zI (((M 40 0 * M 40 1).toNat) : Int)), (15, zI least), (14, zI ((zrep (stL (fun _ => true) (fun k : Nat => decide (least ≤ bcZ (arT t ((k : Int) / M 40 1) ((k : Int) % M 40 1)) + zbz (laT t ((k : Int) / M 40 1) ((k : Int) % M 40 1)))) (M 40 1)) ((M 40 0 * M 40 1).toNat) (M, 0)).2)), (13, zI 1), (12, zR 42), (11, zR 41), (10, zI (zbz vb)), (9, zI c), (8, zI r), (7, zI kd), (6, zI h), (5, zI e), (4, zR 40), (3, zR 39), (2, zR 38), (1, zR 27), (0, zR 60)] [] ((zrep (stL (fun _ => true) (fun k : Nat => decide (least ≤ bcZ (arT t ((k : Int) / M 40 1) ((k : Int) % M 40 1)) + zbz (laT t ((k : Int) / M 40 1) ((k : Int) % M 40 1)))) (M 40 1)) ((M 40 0 * M 40 1).toNat) (M, 0)).1)
    have hE : p4V t (fun p q => decide (least ≤ bcZ (arT t p q) + zbz (laT t p q))) M (zrep (stL (fun _ => true) (fun k : Nat => decide (least ≤ bcZ (arT t ((k : Int) / M 40 1) ((k : Int) % M 40 1)) + zbz (laT t ((k : Int) / M 40 1) ((k : Int) % M 40 1)))) (M 40 1)) (M 40 0 * M 40 1).toNat (M, 0)) (fun _ _ => True) := by rw [hT1, hT2]; exact sm_end hO hM
    have q40h : (zrep (stL (fun _ => true) (fun k : Nat => decide (least ≤ bcZ (arT t ((k : Int) / M 40 1) ((k : Int) % M 40 1)) + zbz (laT t ((k : Int) / M 40 1) ((k : Int) % M 40 1)))) (M 40 1)) (M 40 0 * M 40 1).toNat (M, 0)).1 40 = M 40 := hE.2.2.2 40 (by decide) (by decide)
    have hE2 := hE.2.1
    have hE3 := hE.2.2.1
    have hEb := tsVc_bd (t := t) (P := fun _ _ => True) (v := (fun p q => decide (least ≤ bcZ (arT t p q) + zbz (laT t p q)))) hO
    have hXb := p4Y_lo (M' := (zrep (stL (fun _ => true) (fun k : Nat => decide (least ≤ bcZ (arT t ((k : Int) / M 40 1) ((k : Int) % M 40 1)) + zbz (laT t ((k : Int) / M 40 1) ((k : Int) % M 40 1)))) (M 40 1)) (M 40 0 * M 40 1).toNat (M, 0)).1) ⟨hX, ht⟩ (fun k hk => hE.2.2.2 k (by omega) (by omega))
    refine z_ilw (pc := 685) hc 0 rfl dL_law_685 ?_
    refine z_alw (pc := 687) hc 12 rfl dL_law_687 ?_
    refine z_iconst (pc := 689) hc 0 dL_law_689 ?_
    refine z_iald (pc := 690) hc (by decide) rfl rfl (by decide) (by omega) dL_law_690 ?_
    refine zJW_eq (st' := [zI (M 40 0), zI (((M 40 0 * M 40 1).toNat) : Int)]) rfl (by rw [q40h]) rfl ?_
    refine z_alw (pc := 691) hc 12 rfl dL_law_691 ?_
    refine z_iconst (pc := 693) hc 1 dL_law_693 ?_
    refine z_iald (pc := 694) hc (by decide) rfl rfl (by decide) (by omega) dL_law_694 ?_
    refine zJW_eq (st' := [zI (M 40 1), zI (M 40 0), zI (((M 40 0 * M 40 1).toNat) : Int)]) rfl (by rw [q40h]) rfl ?_
    refine z_imul (pc := 695) hc dL_law_695 ?_
    refine z_cge (pc := 696) (tgt := 769) hc (by omega) (by decide) dL_law_696 (fun h696 => ?_) (fun h696 => ?_)
    · show zJW X 769 [(16, zI (((M 40 0 * M 40 1).toNat) : Int)), (15, zI least), (14, zI ((zrep (stL (fun _ => true) (fun k : Nat => decide (least ≤ bcZ (arT t ((k : Int) / M 40 1) ((k : Int) % M 40 1)) + zbz (laT t ((k : Int) / M 40 1) ((k : Int) % M 40 1)))) (M 40 1)) ((M 40 0 * M 40 1).toNat) (M, 0)).2)), (13, zI 1), (12, zR 42), (11, zR 41), (10, zI (zbz vb)), (9, zI c), (8, zI r), (7, zI kd), (6, zI h), (5, zI e), (4, zR 40), (3, zR 39), (2, zR 38), (1, zR 27), (0, zR 60)] [] ((zrep (stL (fun _ => true) (fun k : Nat => decide (least ≤ bcZ (arT t ((k : Int) / M 40 1) ((k : Int) % M 40 1)) + zbz (laT t ((k : Int) / M 40 1) ((k : Int) % M 40 1)))) (M 40 1)) ((M 40 0 * M 40 1).toNat) (M, 0)).1)
      refine z_ald (pc := 769) hc 15 rfl dL_law_769 ?_
      refine z_ilw (pc := 770) hc 1 rfl dL_law_770 ?_
      refine kg_L_135 (pc := 772) hc rfl (zfitG (Nat.le_of_ble_eq_true rfl) (fun i hi => by first | cases hi | (simp only [zflX, zfl0, Bool.or_eq_true, decide_eq_true_eq] at hi ⊢; omega)) (fun h => by first | rfl | cases h)) (by rfl) (Nat.le_of_ble_eq_true rfl) (ct_X5_smooth (zrep (stL (fun _ => true) (fun k : Nat => decide (least ≤ bcZ (arT t ((k : Int) / M 40 1) ((k : Int) % M 40 1)) + zbz (laT t ((k : Int) / M 40 1) ((k : Int) % M 40 1)))) (M 40 1)) (M 40 0 * M 40 1).toNat (M, 0)).1 hXb.1 least (by omega)) dL_law_772 (fun zr M1 hq => ?_)
      obtain ⟨rfl, hY⟩ := qi_smooth hXb.1 hXb.2 hO hlb hq
      have hM1 := p4M_hi hE.1 hY.2.2
      show zJW X 775 [(16, zI (((M 40 0 * M 40 1).toNat) : Int)), (15, zI least), (14, zI ((zrep (stL (fun _ => true) (fun k : Nat => decide (least ≤ bcZ (arT t ((k : Int) / M 40 1) ((k : Int) % M 40 1)) + zbz (laT t ((k : Int) / M 40 1) ((k : Int) % M 40 1)))) (M 40 1)) ((M 40 0 * M 40 1).toNat) (M, 0)).2)), (13, zI 1), (12, zR 42), (11, zR 41), (10, zI (zbz vb)), (9, zI c), (8, zI r), (7, zI kd), (6, zI h), (5, zI e), (4, zR 40), (3, zR 39), (2, zR 38), (1, zR 27), (0, zR 60)] [zI (tsVc t (fun _ _ => True) (fun p q => decide (least ≤ bcZ (arT t p q) + zbz (laT t p q))))] M1
      refine z_ilw (pc := 775) hc 2 rfl dL_law_775 ?_
      refine z_cne (pc := 777) (tgt := 784) hc (by omega) (by decide) dL_law_777 (fun h777 => ?_) (fun h777 => ?_)
      · exfalso; omega
      · show zJW X 780 [(16, zI (((M 40 0 * M 40 1).toNat) : Int)), (15, zI least), (14, zI ((zrep (stL (fun _ => true) (fun k : Nat => decide (least ≤ bcZ (arT t ((k : Int) / M 40 1) ((k : Int) % M 40 1)) + zbz (laT t ((k : Int) / M 40 1) ((k : Int) % M 40 1)))) (M 40 1)) ((M 40 0 * M 40 1).toNat) (M, 0)).2)), (13, zI 1), (12, zR 42), (11, zR 41), (10, zI (zbz vb)), (9, zI c), (8, zI r), (7, zI kd), (6, zI h), (5, zI e), (4, zR 40), (3, zR 39), (2, zR 38), (1, zR 27), (0, zR 60)] [] M1
        refine z_iconst (pc := 780) hc 1 dL_law_780 ?_
        refine z_goto (pc := 781) (tgt := 785) hc (by decide) dL_law_781 ?_
        refine z_isw (pc := 785) (lv' := [(13, zI 1), (16, zI (((M 40 0 * M 40 1).toNat) : Int)), (15, zI least), (14, zI ((zrep (stL (fun _ => true) (fun k : Nat => decide (least ≤ bcZ (arT t ((k : Int) / M 40 1) ((k : Int) % M 40 1)) + zbz (laT t ((k : Int) / M 40 1) ((k : Int) % M 40 1)))) (M 40 1)) ((M 40 0 * M 40 1).toNat) (M, 0)).2)), (12, zR 42), (11, zR 41), (10, zI (zbz vb)), (9, zI c), (8, zI r), (7, zI kd), (6, zI h), (5, zI e), (4, zR 40), (3, zR 39), (2, zR 38), (1, zR 27), (0, zR 60)]) hc rfl (Nat.le_of_ble_eq_true rfl) dL_law_785 ?_
        refine z_goto (pc := 787) (tgt := 1384) hc (by decide) dL_law_787 ?_
        refine zJW_sub (lv' := [(13, zI 1), (6, zI h), (5, zI e), (4, zR 40), (3, zR 39), (2, zR 38), (1, zR 27), (0, zR 60)]) [0, 10, 11, 12, 13, 14, 15, 16] rfl ?_
        exact hJ M1 _ ⟨hY.1, hY.2.1, hE3, hM1⟩
    · exfalso; omega
  · show zJW X 685 [(16, zI (i685 : Int)), (15, zI least), (14, zI ((zrep (stL (fun _ => true) (fun k : Nat => decide (least ≤ bcZ (arT t ((k : Int) / M 40 1) ((k : Int) % M 40 1)) + zbz (laT t ((k : Int) / M 40 1) ((k : Int) % M 40 1)))) (M 40 1)) i685 (M, 0)).2)), (13, zI 1), (12, zR 42), (11, zR 41), (10, zI (zbz vb)), (9, zI c), (8, zI r), (7, zI kd), (6, zI h), (5, zI e), (4, zR 40), (3, zR 39), (2, zR 38), (1, zR 27), (0, zR 60)] [] ((zrep (stL (fun _ => true) (fun k : Nat => decide (least ≤ bcZ (arT t ((k : Int) / M 40 1) ((k : Int) % M 40 1)) + zbz (laT t ((k : Int) / M 40 1) ((k : Int) % M 40 1)))) (M 40 1)) i685 (M, 0)).1)
    have hk := zkx (h := M 40 0) (w := M 40 1) (k := (i685 : Int)) ⟨by omega, by omega⟩ (by omega)
    obtain ⟨p, hgp⟩ : ∃ p : Int, p = (i685 : Int) / M 40 1 := ⟨_, rfl⟩
    obtain ⟨q, hgq⟩ : ∃ q : Int, q = (i685 : Int) % M 40 1 := ⟨_, rfl⟩
    rw [← hgp, ← hgq] at hk
    have hpq : inT t p q = true := inT_of (by omega)
    have hpb := inT_bd hpq
    have hv := p4V_n (v := (fun p q => decide (least ≤ bcZ (arT t p q) + zbz (laT t p q)))) (C := (fun _ => true)) (V := (fun k : Nat => decide (least ≤ bcZ (arT t ((k : Int) / M 40 1) ((k : Int) % M 40 1)) + zbz (laT t ((k : Int) / M 40 1) ((k : Int) % M 40 1))))) hO hM (by intro k _; first | rfl | (rw [← hT2])) i685 (by rw [← hT1, ← hT2]; omega)
    rw [← hT2] at hv
    have q40h : (zrep (stL (fun _ => true) (fun k : Nat => decide (least ≤ bcZ (arT t ((k : Int) / M 40 1) ((k : Int) % M 40 1)) + zbz (laT t ((k : Int) / M 40 1) ((k : Int) % M 40 1)))) (M 40 1)) i685 (M, 0)).1 40 = M 40 := hv.2.2.2 40 (by decide) (by decide)
    obtain ⟨sM, hsM⟩ : ∃ s : Mem × Int, s = (zrep (stL (fun _ => true) (fun k : Nat => decide (least ≤ bcZ (arT t ((k : Int) / M 40 1) ((k : Int) % M 40 1)) + zbz (laT t ((k : Int) / M 40 1) ((k : Int) % M 40 1)))) (M 40 1)) i685 (M, 0)) := ⟨_, rfl⟩
    rw [← hsM] at hv
    obtain ⟨hv1, hv2, hv3, hv4⟩ := hv
    have hpqV : inT (tsV t (p4P1 (fun _ => true) (M 40 1) i685) (fun p q => decide (least ≤ bcZ (arT t p q) + zbz (laT t p q)))) p q = true := hpq
    have q40 : sM.1 40 = M 40 := hv4 40 (by decide) (by decide)
    have q41 : sM.1 41 = M 41 := hv4 41 (by decide) (by decide)
    have hla := la_d1 hv3 hv1.1 hpqV
    have hnb := tsVc_bd (t := t) (P := p4P1 (fun _ => true) (M 40 1) i685) (v := (fun p q => decide (least ≤ bcZ (arT t p q) + zbz (laT t p q)))) hO
    rw [← hv2] at hnb
    have hbb := bcZ_bd (arT_bd t p q)
    have hzz := zbz_bd (laT t p q)
    have e_s : (zrep (stL (fun _ => true) (fun k : Nat => decide (least ≤ bcZ (arT t ((k : Int) / M 40 1) ((k : Int) % M 40 1)) + zbz (laT t ((k : Int) / M 40 1) ((k : Int) % M 40 1)))) (M 40 1)) (i685 + 1) (M, 0)) = stL (fun _ => true) (fun k : Nat => decide (least ≤ bcZ (arT t ((k : Int) / M 40 1) ((k : Int) % M 40 1)) + zbz (laT t ((k : Int) / M 40 1) ((k : Int) % M 40 1)))) (M 40 1) i685 sM := by rw [zrep_succ, hsM]
    refine z_ilw (pc := 685) hc 0 rfl dL_law_685 ?_
    refine z_alw (pc := 687) hc 12 rfl dL_law_687 ?_
    refine z_iconst (pc := 689) hc 0 dL_law_689 ?_
    refine z_iald (pc := 690) hc (by decide) rfl rfl (by decide) (by omega) dL_law_690 ?_
    refine zJW_eq (st' := [zI (M 40 0), zI (i685 : Int)]) rfl (by rw [q40h]) rfl ?_
    refine z_alw (pc := 691) hc 12 rfl dL_law_691 ?_
    refine z_iconst (pc := 693) hc 1 dL_law_693 ?_
    refine z_iald (pc := 694) hc (by decide) rfl rfl (by decide) (by omega) dL_law_694 ?_
    refine zJW_eq (st' := [zI (M 40 1), zI (M 40 0), zI (i685 : Int)]) rfl (by rw [q40h]) rfl ?_
    refine z_imul (pc := 695) hc dL_law_695 ?_
    refine z_cge (pc := 696) (tgt := 769) hc (by omega) (by decide) dL_law_696 (fun h696 => ?_) (fun h696 => ?_)
    · exfalso; omega
    · show zJW X 699 [(16, zI (i685 : Int)), (15, zI least), (14, zI ((zrep (stL (fun _ => true) (fun k : Nat => decide (least ≤ bcZ (arT t ((k : Int) / M 40 1) ((k : Int) % M 40 1)) + zbz (laT t ((k : Int) / M 40 1) ((k : Int) % M 40 1)))) (M 40 1)) i685 (M, 0)).2)), (13, zI 1), (12, zR 42), (11, zR 41), (10, zI (zbz vb)), (9, zI c), (8, zI r), (7, zI kd), (6, zI h), (5, zI e), (4, zR 40), (3, zR 39), (2, zR 38), (1, zR 27), (0, zR 60)] [] ((zrep (stL (fun _ => true) (fun k : Nat => decide (least ≤ bcZ (arT t ((k : Int) / M 40 1) ((k : Int) % M 40 1)) + zbz (laT t ((k : Int) / M 40 1) ((k : Int) % M 40 1)))) (M 40 1)) i685 (M, 0)).1)
      refine zJW_eq (lv' := [(16, zI (i685 : Int)), (15, zI least), (14, zI sM.2), (13, zI 1), (12, zR 42), (11, zR 41), (10, zI (zbz vb)), (9, zI c), (8, zI r), (7, zI kd), (6, zI h), (5, zI e), (4, zR 40), (3, zR 39), (2, zR 38), (1, zR 27), (0, zR 60)]) (M' := sM.1) (by rw [hsM]) rfl (by rw [hsM]) ?_
      refine z_ilw (pc := 699) hc 0 rfl dL_law_699 ?_
      refine z_alw (pc := 701) hc 12 rfl dL_law_701 ?_
      refine z_iconst (pc := 703) hc 1 dL_law_703 ?_
      refine z_iald (pc := 704) hc (by decide) rfl rfl (by decide) (by omega) dL_law_704 ?_
      refine zJW_eq (st' := [zI (M 40 1), zI (i685 : Int)]) rfl (by rw [q40]) rfl ?_
      refine z_idiv (pc := 705) hc (by omega) dL_law_705 ?_
      refine z_isw (pc := 706) (lv' := [(17, zI ((i685 : Int) / (M 40 1))), (16, zI (i685 : Int)), (15, zI least), (14, zI sM.2), (13, zI 1), (12, zR 42), (11, zR 41), (10, zI (zbz vb)), (9, zI c), (8, zI r), (7, zI kd), (6, zI h), (5, zI e), (4, zR 40), (3, zR 39), (2, zR 38), (1, zR 27), (0, zR 60)]) hc rfl (Nat.le_of_ble_eq_true rfl) dL_law_706 ?_
      refine z_ilw (pc := 708) hc 1 rfl dL_law_708 ?_
      refine z_alw (pc := 710) hc 13 rfl dL_law_710 ?_
      refine z_iconst (pc := 712) hc 1 dL_law_712 ?_
      refine z_iald (pc := 713) hc (by decide) rfl rfl (by decide) (by omega) dL_law_713 ?_
      refine zJW_eq (st' := [zI (M 40 1), zI (i685 : Int)]) rfl (by rw [q40]) rfl ?_
      refine z_irem (pc := 714) hc (by omega) dL_law_714 ?_
      refine z_isw (pc := 715) (lv' := [(18, zI ((i685 : Int) % (M 40 1))), (17, zI ((i685 : Int) / (M 40 1))), (16, zI (i685 : Int)), (15, zI least), (14, zI sM.2), (13, zI 1), (12, zR 42), (11, zR 41), (10, zI (zbz vb)), (9, zI c), (8, zI r), (7, zI kd), (6, zI h), (5, zI e), (4, zR 40), (3, zR 39), (2, zR 38), (1, zR 27), (0, zR 60)]) hc rfl (Nat.le_of_ble_eq_true rfl) dL_law_715 ?_
      refine zJW_eq (lv' := [(18, zI q), (17, zI p), (16, zI (i685 : Int)), (15, zI least), (14, zI sM.2), (13, zI 1), (12, zR 42), (11, zR 41), (10, zI (zbz vb)), (9, zI c), (8, zI r), (7, zI kd), (6, zI h), (5, zI e), (4, zR 40), (3, zR 39), (2, zR 38), (1, zR 27), (0, zR 60)]) (by rw [hgp, hgq]) rfl rfl ?_
      refine z_ilw (pc := 717) hc 4 rfl dL_law_717 ?_
      refine z_ald (pc := 719) hc 16 rfl dL_law_719 ?_
      refine z_ald (pc := 720) hc 15 rfl dL_law_720 ?_
      refine z_ilw (pc := 721) hc 1 rfl dL_law_721 ?_
      refine z_ilw (pc := 723) hc 0 rfl dL_law_723 ?_
      refine z_alw (pc := 725) hc 7 rfl dL_law_725 ?_
      refine z_ilw (pc := 727) hc 1 rfl dL_law_727 ?_
      refine z_ilw (pc := 729) hc 0 rfl dL_law_729 ?_
      refine kc_L_32 (pc := 731) hc rfl (zfitG (Nat.le_of_ble_eq_true rfl) (fun i hi => by first | cases hi | (simp only [zflX, zfl0, Bool.or_eq_true, decide_eq_true_eq] at hi ⊢; omega)) (fun h => by first | rfl | cases h)) (Nat.le_of_ble_eq_true rfl) (ct_L_around sM.1 41 (Or.inr rfl) t (by rw [q41]; exact h41) hO p q hpq) dL_law_731 ?_
      refine kc_L_41 (pc := 734) hc rfl (zfitG (Nat.le_of_ble_eq_true rfl) (fun i hi => by first | cases hi | (simp only [zflX, zfl0, Bool.or_eq_true, decide_eq_true_eq] at hi ⊢; omega)) (fun h => by first | rfl | cases h)) (Nat.le_of_ble_eq_true rfl) (ct_L_bits sM.1 (arT t p q) (arT_bd _ _ _)) dL_law_734 ?_
      refine z_alw (pc := 737) hc 7 rfl dL_law_737 ?_
      refine z_ilw (pc := 739) hc 1 rfl dL_law_739 ?_
      refine z_ilw (pc := 741) hc 0 rfl dL_law_741 ?_
      refine kc_L_19 (pc := 743) hc rfl (zfitG (Nat.le_of_ble_eq_true rfl) (fun i hi => by first | cases hi | (simp only [zflX, zfl0, Bool.or_eq_true, decide_eq_true_eq] at hi ⊢; omega)) (fun h => by first | rfl | cases h)) (Nat.le_of_ble_eq_true rfl) (ct_L_landT sM.1 41 (Or.inr rfl) t (by rw [q41]; exact h41) hO p q (by omega)) dL_law_743 ?_
      refine z_iadd (pc := 746) hc dL_law_746 ?_
      refine z_ilw (pc := 747) hc 3 rfl dL_law_747 ?_
      have hJ757 : zJW X 757 [(18, zI q), (17, zI p), (16, zI (i685 : Int)), (15, zI least), (14, zI sM.2), (13, zI 1), (12, zR 42), (11, zR 41), (10, zI (zbz vb)), (9, zI c), (8, zI r), (7, zI kd), (6, zI h), (5, zI e), (4, zR 40), (3, zR 39), (2, zR 38), (1, zR 27), (0, zR 60)] [zI (zbz (decide (least ≤ bcZ (arT t p q) + zbz (laT t p q)))), zI q, zI p, zR 39, zR 38, zI sM.2] sM.1 := by
        refine kc_L_117 (pc := 757) hc rfl (zfitG (Nat.le_of_ble_eq_true rfl) (fun i hi => by first | cases hi | (simp only [zflX, zfl0, Bool.or_eq_true, decide_eq_true_eq] at hi ⊢; omega)) (fun h => by first | rfl | cases h)) (Nat.le_of_ble_eq_true rfl) (ct_become_la sM.1 (tsV t (p4P1 (fun _ => true) (M 40 1) i685) (fun p q => decide (least ≤ bcZ (arT t p q) + zbz (laT t p q)))) hv1.1 hv3 p q hpqV (decide (least ≤ bcZ (arT t p q) + zbz (laT t p q)))) dL_law_757 ?_
        refine z_iadd (pc := 760) hc dL_law_760 ?_
        refine z_isw (pc := 761) (lv' := [(14, zI (sM.2 + (zbz (decide (laZ (sM.1 38) p q = 1) != (decide (least ≤ bcZ (arT t p q) + zbz (laT t p q))))))), (18, zI q), (17, zI p), (16, zI (i685 : Int)), (15, zI least), (13, zI 1), (12, zR 42), (11, zR 41), (10, zI (zbz vb)), (9, zI c), (8, zI r), (7, zI kd), (6, zI h), (5, zI e), (4, zR 40), (3, zR 39), (2, zR 38), (1, zR 27), (0, zR 60)]) hc rfl (Nat.le_of_ble_eq_true rfl) dL_law_761 ?_
        refine z_iinc (pc := 763) (lv' := [(16, zI ((i685 : Int) + 1)), (14, zI (sM.2 + (zbz (decide (laZ (sM.1 38) p q = 1) != (decide (least ≤ bcZ (arT t p q) + zbz (laT t p q))))))), (18, zI q), (17, zI p), (15, zI least), (13, zI 1), (12, zR 42), (11, zR 41), (10, zI (zbz vb)), (9, zI c), (8, zI r), (7, zI kd), (6, zI h), (5, zI e), (4, zR 40), (3, zR 39), (2, zR 38), (1, zR 27), (0, zR 60)]) hc 3 rfl rfl (Nat.le_of_ble_eq_true rfl) dL_law_763 ?_
        refine z_goto (pc := 766) (tgt := 685) hc (by decide) dL_law_766 ?_
        refine zJW_sub (lv' := [(16, zI ((i685 : Int) + 1)), (15, zI least), (14, zI (sM.2 + (zbz (decide (laZ (sM.1 38) p q = 1) != (decide (least ≤ bcZ (arT t p q) + zbz (laT t p q))))))), (13, zI 1), (12, zR 42), (11, zR 41), (10, zI (zbz vb)), (9, zI c), (8, zI r), (7, zI kd), (6, zI h), (5, zI e), (4, zR 40), (3, zR 39), (2, zR 38), (1, zR 27), (0, zR 60)]) [0, 4, 1, 5, 6, 7, 8, 9, 10, 11, 12, 13, 14, 15, 16, 17, 18] rfl ?_
        exact zJW_eq (by rw [e_s, stL_y rfl, ← hgp, ← hgq] <;> rfl) rfl (by rw [e_s, stL_y rfl, ← hgp, ← hgq] <;> rfl) ih685
      refine z_clt (pc := 749) (tgt := 756) hc (by omega) (by decide) dL_law_749 (fun h749 => ?_) (fun h749 => ?_)
      · show zJW X 756 [(18, zI q), (17, zI p), (16, zI (i685 : Int)), (15, zI least), (14, zI sM.2), (13, zI 1), (12, zR 42), (11, zR 41), (10, zI (zbz vb)), (9, zI c), (8, zI r), (7, zI kd), (6, zI h), (5, zI e), (4, zR 40), (3, zR 39), (2, zR 38), (1, zR 27), (0, zR 60)] [zI q, zI p, zR 39, zR 38, zI sM.2] sM.1
        refine z_iconst (pc := 756) hc 0 dL_law_756 ?_
        exact zJW_eq (by rfl) (by first | (rw [decide_eq_false (by omega)]; rfl) | (rw [decide_eq_true (by omega)]; rfl)) (by rfl) hJ757
      · show zJW X 752 [(18, zI q), (17, zI p), (16, zI (i685 : Int)), (15, zI least), (14, zI sM.2), (13, zI 1), (12, zR 42), (11, zR 41), (10, zI (zbz vb)), (9, zI c), (8, zI r), (7, zI kd), (6, zI h), (5, zI e), (4, zR 40), (3, zR 39), (2, zR 38), (1, zR 27), (0, zR 60)] [zI q, zI p, zR 39, zR 38, zI sM.2] sM.1
        refine z_iconst (pc := 752) hc 1 dL_law_752 ?_
        refine z_goto (pc := 753) (tgt := 757) hc (by decide) dL_law_753 ?_
        exact zJW_eq (by rfl) (by first | (rw [decide_eq_false (by omega)]; rfl) | (rw [decide_eq_true (by omega)]; rfl)) (by rfl) hJ757

