set_option maxRecDepth 100000 in
set_option maxHeartbeats 4000000 in
theorem law_turn_q {X : CX} {M : Mem} {t : TS} (hc : zCx (KL_law 43) X) (hO : TOk t) (hM : p4M M t) (i n h e : Int) (hk : ∀ M1 : Mem, p4M M1 (toT t) → (∀ k : Nat, k < 38 → M1 k = M k) → zJW X 813 [(16, zI (i + 1)), (15, zI n), (12, zR 42), (11, zR 41), (6, zI h), (5, zI e), (4, zR 40), (3, zR 39), (2, zR 38), (1, zR 27), (0, zR 60)] [] M1) : zJW X 820 [(16, zI i), (15, zI n), (12, zR 42), (11, zR 41), (6, zI h), (5, zI e), (4, zR 40), (3, zR 39), (2, zR 38), (1, zR 27), (0, zR 60)] [] M := by
  obtain ⟨hF, hP, hT⟩ := id hM
  obtain ⟨hO1, hO2, hO3, hO4, hO5⟩ := id hO
  have hT1 := hT.1
  have hT2 := hT.2.1
  have hOT := TOk_T hO
  have hw9 := zhw (h := tW t) (w := tH t) (by omega) (by omega) (by omega) (by omega)
  have eCP : (cpM (cpM M 38 41 14) 39 42 36) 40 = M 40 := by rw [cpM_off (by decide), cpM_off (by decide)]
  have eCP_0 : (cpM (cpM M 38 41 14) 39 42 36) 40 0 = tH t := by rw [eCP]; exact hT1
  have eCP_1 : (cpM (cpM M 38 41 14) 39 42 36) 40 1 = tW t := by rw [eCP]; exact hT2
  have eZ_0 : (zup (zup (cpM (cpM M 38 41 14) 39 42 36) 40 0 (tW t)) 40 1 (tH t)) 40 0 = tW t := by rw [zup_off (by decide), zup_at]
  have eZ_1 : (zup (zup (cpM (cpM M 38 41 14) 39 42 36) 40 0 (tW t)) 40 1 (tH t)) 40 1 = tH t := by rw [zup_at]
  have eZ_2 : (zup (zup (cpM (cpM M 38 41 14) 39 42 36) 40 0 (tW t)) 40 1 (tH t)) 40 2 = zbz (tO t) := by rw [zup_off (by decide), zup_off (by decide), eCP]; exact hT.2.2
  have hTZ : p4T ((zup (zup (cpM (cpM M 38 41 14) 39 42 36) 40 0 (tW t)) 40 1 (tH t)) 40) (toT t) := ⟨eZ_0, eZ_1, eZ_2⟩
  have e8_1 : zup (cpM (cpM M 38 41 14) 39 42 36) 40 0 (tW t) 40 1 = tW t := by rw [zup_off (by decide)]; exact eCP_1
  refine z_ald (pc := 820) hc 8 rfl dL_law_820 ?_
  refine z_alw (pc := 821) hc 3 rfl dL_law_821 ?_
  refine kc_L_113 (pc := 823) hc rfl (zfitG (Nat.le_of_ble_eq_true rfl) (fun i hi => by first | cases hi | (simp only [zflX, zfl0, Bool.or_eq_true, decide_eq_true_eq] at hi ⊢; omega)) (fun h => by first | rfl | cases h)) (Nat.le_of_ble_eq_true rfl) (ct_L_copy_38_41 M) dL_law_823 ?_
  refine z_ald (pc := 826) hc 7 rfl dL_law_826 ?_
  refine z_alw (pc := 827) hc 2 rfl dL_law_827 ?_
  refine kc_L_113 (pc := 829) hc rfl (zfitG (Nat.le_of_ble_eq_true rfl) (fun i hi => by first | cases hi | (simp only [zflX, zfl0, Bool.or_eq_true, decide_eq_true_eq] at hi ⊢; omega)) (fun h => by first | rfl | cases h)) (Nat.le_of_ble_eq_true rfl) (ct_L_copy_39_42 (cpM M 38 41 14)) dL_law_829 ?_
  refine z_alw (pc := 832) hc 6 rfl dL_law_832 ?_
  refine z_iconst (pc := 834) hc 0 dL_law_834 ?_
  refine z_iald (pc := 835) hc (by decide) rfl rfl (by decide) (by omega) dL_law_835 ?_
  refine zJW_eq (st' := [zI (tH t)]) rfl (by rw [eCP_0]) rfl ?_
  refine z_isw (pc := 836) (lv' := [(17, zI (tH t)), (16, zI i), (15, zI n), (12, zR 42), (11, zR 41), (6, zI h), (5, zI e), (4, zR 40), (3, zR 39), (2, zR 38), (1, zR 27), (0, zR 60)]) hc rfl (Nat.le_of_ble_eq_true rfl) dL_law_836 ?_
  refine z_alw (pc := 838) hc 7 rfl dL_law_838 ?_
  refine z_iconst (pc := 840) hc 0 dL_law_840 ?_
  refine z_alw (pc := 841) hc 7 rfl dL_law_841 ?_
  refine z_iconst (pc := 843) hc 1 dL_law_843 ?_
  refine z_iald (pc := 844) hc (by decide) rfl rfl (by decide) (by omega) dL_law_844 ?_
  refine zJW_eq (st' := [zI (tW t), zI 0, zR 40]) rfl (by rw [eCP_1]) rfl ?_
  refine z_iast (pc := 845) hc (by decide) rfl rfl (by decide) (by omega) dL_law_845 ?_
  refine z_alw (pc := 846) hc 7 rfl dL_law_846 ?_
  refine z_iconst (pc := 848) hc 1 dL_law_848 ?_
  refine z_ilw (pc := 849) hc 0 rfl dL_law_849 ?_
  refine z_iast (pc := 851) hc (by decide) rfl rfl (by decide) (by omega) dL_law_851 ?_
  refine z_ald (pc := 852) hc 9 rfl dL_law_852 ?_
  refine z_alw (pc := 853) hc 7 rfl dL_law_853 ?_
  refine kc_L_138 (pc := 855) hc rfl (zfitG (Nat.le_of_ble_eq_true rfl) (fun i hi => by first | cases hi | (simp only [zflX, zfl0, Bool.or_eq_true, decide_eq_true_eq] at hi ⊢; omega)) (fun h => by first | rfl | cases h)) (Nat.le_of_ble_eq_true rfl) (ct_L_frame (zup (zup (cpM (cpM M 38 41 14) 39 42 36) 40 0 (tW t)) 40 1 (tH t)) (by rw [eZ_0, eZ_1]; omega) (by rw [eZ_2]; exact zbz_cases _)) dL_law_855 ?_
  obtain ⟨FM, hFM⟩ : ∃ m : Mem, m = (frM (zup (zup (cpM (cpM M 38 41 14) 39 42 36) 40 0 (tW t)) 40 1 (tH t)) 38 40 14) := ⟨_, rfl⟩
  refine zJW_eq (M' := FM) rfl rfl (by rw [hFM]) ?_
  have hI0 : qtI (toT t) 0 FM := by rw [hFM]; exact qtI_0 hOT hTZ
  have hFk : ∀ k : Nat, k ≠ 38 → k ≠ 39 → k ≠ 40 → k ≠ 41 → k ≠ 42 → FM k = M k := fun k k1 _ k3 k4 k5 => by rw [hFM, frM_off k1, zup_ne k3, zup_ne k3, cpM_off k5, cpM_off k4]
  have hF41 : ∀ z : Int, 0 ≤ z ∧ z < 14 → FM 41 z = M 38 z := fun z hz => by rw [hFM, frM_off (by decide), zup_ne (by decide), zup_ne (by decide), cpM_off (by decide), cpM_to hz]
  have hF42 : ∀ z : Int, 0 ≤ z ∧ z < 36 → FM 42 z = M 39 z := fun z hz => by rw [hFM, frM_off (by decide), zup_ne (by decide), zup_ne (by decide), cpM_to hz, cpM_off (by decide)]
  have g41 : p4F (FM 41) t := fun r c a1 a2 a3 a4 => by
    have e : laZ (FM 41) r c = laZ (M 38) r c := by unfold laZ; rw [hF41 (r + 1) (by omega)]
    rw [e]
    exact hF r c a1 a2 a3 a4
  have g42 : p4P (FM 42) t := fun r c hi => by
    have hib := inT_bd hi
    have e : piZ (FM 42) r c = piZ (M 39) r c := by unfold piZ; rw [hF42 (3 * r + c / 4) (by omega)]
    rw [e]
    exact hP r c hi
  refine z_iconst (pc := 858) hc 0 dL_law_858 ?_
  refine z_isw (pc := 859) (lv' := [(18, zI 0), (17, zI (tH t)), (16, zI i), (15, zI n), (12, zR 42), (11, zR 41), (6, zI h), (5, zI e), (4, zR 40), (3, zR 39), (2, zR 38), (1, zR 27), (0, zR 60)]) hc rfl (Nat.le_of_ble_eq_true rfl) dL_law_859 ?_
  refine z_for ((tW t * tH t).toNat) (fun i861 => [(18, zI (i861 : Int)), (17, zI (tH t)), (16, zI i), (15, zI n), (12, zR 42), (11, zR 41), (6, zI h), (5, zI e), (4, zR 40), (3, zR 39), (2, zR 38), (1, zR 27), (0, zR 60)]) (fun i861 => (zrep (qtS (toT t)) i861 FM)) (by rfl) (by rfl) ?_ (fun i861 hi861 ih861 => ?_)
  · show zJW X 861 [(18, zI (((tW t * tH t).toNat) : Int)), (17, zI (tH t)), (16, zI i), (15, zI n), (12, zR 42), (11, zR 41), (6, zI h), (5, zI e), (4, zR 40), (3, zR 39), (2, zR 38), (1, zR 27), (0, zR 60)] [] (zrep (qtS (toT t)) ((tW t * tH t).toNat) FM)
    have hv := qtI_n hOT hI0 (tW t * tH t).toNat (show (((tW t * tH t).toNat : Nat) : Int) ≤ tW t * tH t by omega)
    have q40h_0 : (zrep (qtS (toT t)) (tW t * tH t).toNat FM) 40 0 = tW t := hv.1.2.2.1
    have q40h_1 : (zrep (qtS (toT t)) (tW t * tH t).toNat FM) 40 1 = tH t := hv.1.2.2.2.1
    have hME : p4M (zrep (qtS (toT t)) (tW t * tH t).toNat FM) (toT t) := qtI_end hOT (show qtI (toT t) (tW t * tH t) _ by
      have e : (((tW t * tH t).toNat : Nat) : Int) = tW t * tH t := by omega
      rw [← e]
      exact hv.1)
    refine z_ilw (pc := 861) hc 0 rfl dL_law_861 ?_
    refine z_alw (pc := 863) hc 8 rfl dL_law_863 ?_
    refine z_iconst (pc := 865) hc 0 dL_law_865 ?_
    refine z_iald (pc := 866) hc (by decide) rfl rfl (by decide) (by omega) dL_law_866 ?_
    refine zJW_eq (st' := [zI (tW t), zI (((tW t * tH t).toNat) : Int)]) rfl (by rw [q40h_0]) rfl ?_
    refine z_alw (pc := 867) hc 8 rfl dL_law_867 ?_
    refine z_iconst (pc := 869) hc 1 dL_law_869 ?_
    refine z_iald (pc := 870) hc (by decide) rfl rfl (by decide) (by omega) dL_law_870 ?_
    refine zJW_eq (st' := [zI (tH t), zI (tW t), zI (((tW t * tH t).toNat) : Int)]) rfl (by rw [q40h_1]) rfl ?_
    refine z_imul (pc := 871) hc dL_law_871 ?_
    refine z_cge (pc := 872) (tgt := 992) hc (by omega) (by decide) dL_law_872 (fun h872 => ?_) (fun h872 => ?_)
    · show zJW X 992 [(18, zI (((tW t * tH t).toNat) : Int)), (17, zI (tH t)), (16, zI i), (15, zI n), (12, zR 42), (11, zR 41), (6, zI h), (5, zI e), (4, zR 40), (3, zR 39), (2, zR 38), (1, zR 27), (0, zR 60)] [] (zrep (qtS (toT t)) ((tW t * tH t).toNat) FM)
      refine z_iinc (pc := 992) (lv' := [(16, zI (i + 1)), (18, zI (((tW t * tH t).toNat) : Int)), (17, zI (tH t)), (15, zI n), (12, zR 42), (11, zR 41), (6, zI h), (5, zI e), (4, zR 40), (3, zR 39), (2, zR 38), (1, zR 27), (0, zR 60)]) hc 2 rfl rfl (Nat.le_of_ble_eq_true rfl) dL_law_992 ?_
      refine z_goto (pc := 995) (tgt := 813) hc (by decide) dL_law_995 ?_
      refine zJW_sub (lv' := [(16, zI (i + 1)), (15, zI n), (12, zR 42), (11, zR 41), (6, zI h), (5, zI e), (4, zR 40), (3, zR 39), (2, zR 38), (1, zR 27), (0, zR 60)]) [0, 3, 4, 5, 6, 7, 8, 9, 10, 11, 12] rfl ?_
      exact hk (zrep (qtS (toT t)) ((tW t * tH t).toNat) FM) hME (fun k hk => (hv.2 k (by omega) (by omega)).trans (hFk k (by omega) (by omega) (by omega) (by omega) (by omega)))
    · exfalso; omega
  · show zJW X 861 [(18, zI (i861 : Int)), (17, zI (tH t)), (16, zI i), (15, zI n), (12, zR 42), (11, zR 41), (6, zI h), (5, zI e), (4, zR 40), (3, zR 39), (2, zR 38), (1, zR 27), (0, zR 60)] [] (zrep (qtS (toT t)) i861 FM)
    have hk := zkx (h := tW t) (w := tH t) (k := (i861 : Int)) ⟨by omega, by omega⟩ (by omega)
    obtain ⟨p, hgp⟩ : ∃ p : Int, p = (i861 : Int) / tH t := ⟨_, rfl⟩
    obtain ⟨q, hgq⟩ : ∃ q : Int, q = (i861 : Int) % tH t := ⟨_, rfl⟩
    rw [← hgp, ← hgq] at hk
    have hpq : inT (toT t) p q = true := inT_of (show 0 ≤ p ∧ p < tW t ∧ 0 ≤ q ∧ q < tH t by omega)
    have hrs : inT t (tH t - 1 - q) p = true := by rw [← inT_T]; exact hpq
    have hla := laT_T hpq
    have hpc := pcT_T hO hpq
    have hpb := p4_pc hO (tH t - 1 - q) p
    have hv := qtI_n hOT hI0 i861 (show (i861 : Int) ≤ tW t * tH t by omega)
    have q40h_0 : (zrep (qtS (toT t)) i861 FM) 40 0 = tW t := hv.1.2.2.1
    have q40h_1 : (zrep (qtS (toT t)) i861 FM) 40 1 = tH t := hv.1.2.2.2.1
    have q40_0 : ∀ s : Mem, s = (zrep (qtS (toT t)) i861 FM) → s 40 0 = tW t := fun s hs => by rw [hs]; exact q40h_0
    have q40_1 : ∀ s : Mem, s = (zrep (qtS (toT t)) i861 FM) → s 40 1 = tH t := fun s hs => by rw [hs]; exact q40h_1
    obtain ⟨sM, hsM⟩ : ∃ s : Mem, s = (zrep (qtS (toT t)) i861 FM) := ⟨_, rfl⟩
    have q40_0 := q40_0 sM hsM
    have q40_1 := q40_1 sM hsM
    rw [← hsM] at hv
    have v41 : sM 41 = FM 41 := hv.2 41 (by decide) (by decide)
    have v42 : sM 42 = FM 42 := hv.2 42 (by decide) (by decide)
    have e_s : (zrep (qtS (toT t)) (i861 + 1) FM) = qtB (toT t) p q (qtA (toT t) p q sM) := by
      rw [zrep_succ, ← hsM]
      show qtB (toT t) ((i861 : Int) / tH t) ((i861 : Int) % tH t) (qtA (toT t) ((i861 : Int) / tH t) ((i861 : Int) % tH t) sM) = _
      rw [← hgp, ← hgq]
    refine z_ilw (pc := 861) hc 0 rfl dL_law_861 ?_
    refine z_alw (pc := 863) hc 8 rfl dL_law_863 ?_
    refine z_iconst (pc := 865) hc 0 dL_law_865 ?_
    refine z_iald (pc := 866) hc (by decide) rfl rfl (by decide) (by omega) dL_law_866 ?_
    refine zJW_eq (st' := [zI (tW t), zI (i861 : Int)]) rfl (by rw [q40h_0]) rfl ?_
    refine z_alw (pc := 867) hc 8 rfl dL_law_867 ?_
    refine z_iconst (pc := 869) hc 1 dL_law_869 ?_
    refine z_iald (pc := 870) hc (by decide) rfl rfl (by decide) (by omega) dL_law_870 ?_
    refine zJW_eq (st' := [zI (tH t), zI (tW t), zI (i861 : Int)]) rfl (by rw [q40h_1]) rfl ?_
    refine z_imul (pc := 871) hc dL_law_871 ?_
    refine z_cge (pc := 872) (tgt := 992) hc (by omega) (by decide) dL_law_872 (fun h872 => ?_) (fun h872 => ?_)
    · exfalso; omega
    · show zJW X 875 [(18, zI (i861 : Int)), (17, zI (tH t)), (16, zI i), (15, zI n), (12, zR 42), (11, zR 41), (6, zI h), (5, zI e), (4, zR 40), (3, zR 39), (2, zR 38), (1, zR 27), (0, zR 60)] [] (zrep (qtS (toT t)) i861 FM)
      refine z_ilw (pc := 875) hc 0 rfl dL_law_875 ?_
      refine z_alw (pc := 877) hc 8 rfl dL_law_877 ?_
      refine z_iconst (pc := 879) hc 1 dL_law_879 ?_
      refine z_iald (pc := 880) hc (by decide) rfl rfl (by decide) (by omega) dL_law_880 ?_
      refine zJW_eq (st' := [zI (tH t), zI (i861 : Int)]) rfl (by rw [q40h_1]) rfl ?_
      refine z_idiv (pc := 881) hc (by omega) dL_law_881 ?_
      refine z_isw (pc := 882) (lv' := [(19, zI ((i861 : Int) / (tH t))), (18, zI (i861 : Int)), (17, zI (tH t)), (16, zI i), (15, zI n), (12, zR 42), (11, zR 41), (6, zI h), (5, zI e), (4, zR 40), (3, zR 39), (2, zR 38), (1, zR 27), (0, zR 60)]) hc rfl (Nat.le_of_ble_eq_true rfl) dL_law_882 ?_
      refine z_ilw (pc := 884) hc 1 rfl dL_law_884 ?_
      refine z_alw (pc := 886) hc 9 rfl dL_law_886 ?_
      refine z_iconst (pc := 888) hc 1 dL_law_888 ?_
      refine z_iald (pc := 889) hc (by decide) rfl rfl (by decide) (by omega) dL_law_889 ?_
      refine zJW_eq (st' := [zI (tH t), zI (i861 : Int)]) rfl (by rw [q40h_1]) rfl ?_
      refine z_irem (pc := 890) hc (by omega) dL_law_890 ?_
      refine z_isw (pc := 891) (lv' := [(20, zI ((i861 : Int) % (tH t))), (19, zI ((i861 : Int) / (tH t))), (18, zI (i861 : Int)), (17, zI (tH t)), (16, zI i), (15, zI n), (12, zR 42), (11, zR 41), (6, zI h), (5, zI e), (4, zR 40), (3, zR 39), (2, zR 38), (1, zR 27), (0, zR 60)]) hc rfl (Nat.le_of_ble_eq_true rfl) dL_law_891 ?_
      refine zJW_eq (lv' := [(20, zI q), (19, zI p), (18, zI (i861 : Int)), (17, zI (tH t)), (16, zI i), (15, zI n), (12, zR 42), (11, zR 41), (6, zI h), (5, zI e), (4, zR 40), (3, zR 39), (2, zR 38), (1, zR 27), (0, zR 60)]) (M' := sM) (by rw [hgp, hgq]) rfl (by rw [hsM]) ?_
      refine z_ald (pc := 893) hc 12 rfl dL_law_893 ?_
      refine z_ilw (pc := 894) hc 1 rfl dL_law_894 ?_
      refine z_ilw (pc := 896) hc 0 rfl dL_law_896 ?_
      refine z_alw (pc := 898) hc 7 rfl dL_law_898 ?_
      refine z_ilw (pc := 900) hc 3 rfl dL_law_900 ?_
      refine z_iconst (pc := 902) hc 1 dL_law_902 ?_
      refine z_isub (pc := 903) hc dL_law_903 ?_
      refine z_ilw (pc := 904) hc 0 rfl dL_law_904 ?_
      refine z_isub (pc := 906) hc dL_law_906 ?_
      refine z_ilw (pc := 907) hc 1 rfl dL_law_907 ?_
      refine kc_L_19 (pc := 909) hc rfl (zfitG (Nat.le_of_ble_eq_true rfl) (fun i hi => by first | cases hi | (simp only [zflX, zfl0, Bool.or_eq_true, decide_eq_true_eq] at hi ⊢; omega)) (fun h => by first | rfl | cases h)) (Nat.le_of_ble_eq_true rfl) (ct_L_landT sM 41 (Or.inr rfl) t (by rw [v41]; exact g41) hO (tH t - 1 - q) p (by have := inT_bd hrs; omega)) dL_law_909 ?_
      refine zJW_eq (st' := [zI (zbz (laT (toT t) p q)), zI q, zI p, zR 38]) rfl (by rw [hla]) rfl ?_
      refine kc_L_100 (pc := 912) hc rfl (zfitG (Nat.le_of_ble_eq_true rfl) (fun i hi => by first | cases hi | (simp only [zflX, zfl0, Bool.or_eq_true, decide_eq_true_eq] at hi ⊢; omega)) (fun h => by first | rfl | cases h)) (Nat.le_of_ble_eq_true rfl) (ct_L_lay sM 38 (Or.inl rfl) p q (zbz (laT (toT t) p q)) (by omega)) dL_law_912 ?_
      refine z_alw (pc := 915) hc 6 rfl dL_law_915 ?_
      refine z_ilw (pc := 917) hc 3 rfl dL_law_917 ?_
      refine z_iconst (pc := 919) hc 1 dL_law_919 ?_
      refine z_isub (pc := 920) hc dL_law_920 ?_
      refine z_ilw (pc := 921) hc 0 rfl dL_law_921 ?_
      refine z_isub (pc := 923) hc dL_law_923 ?_
      refine z_ilw (pc := 924) hc 1 rfl dL_law_924 ?_
      refine kc_L_26 (pc := 926) hc rfl (zfitG (Nat.le_of_ble_eq_true rfl) (fun i hi => by first | cases hi | (simp only [zflX, zfl0, Bool.or_eq_true, decide_eq_true_eq] at hi ⊢; omega)) (fun h => by first | rfl | cases h)) (Nat.le_of_ble_eq_true rfl) (ct_L_pinT (qtA (toT t) p q sM) 42 (Or.inr rfl) t (by show p4P (zup sM 38 _ _ 42) t; rw [zup_ne (by decide), v42]; exact g42) hO (tH t - 1 - q) p hrs) dL_law_926 ?_
      refine z_isw (pc := 929) (lv' := [(21, zI (pcT t (tH t - 1 - q) p)), (20, zI q), (19, zI p), (18, zI (i861 : Int)), (17, zI (tH t)), (16, zI i), (15, zI n), (12, zR 42), (11, zR 41), (6, zI h), (5, zI e), (4, zR 40), (3, zR 39), (2, zR 38), (1, zR 27), (0, zR 60)]) hc rfl (Nat.le_of_ble_eq_true rfl) dL_law_929 ?_
      refine z_ilw (pc := 931) hc 0 rfl dL_law_931 ?_
      refine z_bipush (pc := 933) hc 63 (by decide) dL_law_933 ?_
      have hJ947 : zJW X 947 [(21, zI (pcT t (tH t - 1 - q) p)), (20, zI q), (19, zI p), (18, zI (i861 : Int)), (17, zI (tH t)), (16, zI i), (15, zI n), (12, zR 42), (11, zR 41), (6, zI h), (5, zI e), (4, zR 40), (3, zR 39), (2, zR 38), (1, zR 27), (0, zR 60)] [zI (if (pcT t (tH t - 1 - q) p) = 63 then 0 else mkZ (pcT t (tH t - 1 - q) p))] (qtA (toT t) p q sM) := by
        refine z_isw (pc := 947) (lv' := [(22, zI (if (pcT t (tH t - 1 - q) p) = 63 then 0 else mkZ (pcT t (tH t - 1 - q) p))), (21, zI (pcT t (tH t - 1 - q) p)), (20, zI q), (19, zI p), (18, zI (i861 : Int)), (17, zI (tH t)), (16, zI i), (15, zI n), (12, zR 42), (11, zR 41), (6, zI h), (5, zI e), (4, zR 40), (3, zR 39), (2, zR 38), (1, zR 27), (0, zR 60)]) hc rfl (Nat.le_of_ble_eq_true rfl) dL_law_947 ?_
        refine z_ald (pc := 949) hc 13 rfl dL_law_949 ?_
        refine z_ilw (pc := 950) hc 3 rfl dL_law_950 ?_
        refine z_ilw (pc := 952) hc 2 rfl dL_law_952 ?_
        refine z_ilw (pc := 954) hc 1 rfl dL_law_954 ?_
        refine z_bipush (pc := 956) hc 63 (by decide) dL_law_956 ?_
        have hJ983 : zJW X 983 [(22, zI (if (pcT t (tH t - 1 - q) p) = 63 then 0 else mkZ (pcT t (tH t - 1 - q) p))), (21, zI (pcT t (tH t - 1 - q) p)), (20, zI q), (19, zI p), (18, zI (i861 : Int)), (17, zI (tH t)), (16, zI i), (15, zI n), (12, zR 42), (11, zR 41), (6, zI h), (5, zI e), (4, zR 40), (3, zR 39), (2, zR 38), (1, zR 27), (0, zR 60)] [zI (pcT (toT t) p q), zI q, zI p, zR 39] (qtA (toT t) p q sM) := by
          refine kc_L_104 (pc := 983) hc rfl (zfitG (Nat.le_of_ble_eq_true rfl) (fun i hi => by first | cases hi | (simp only [zflX, zfl0, Bool.or_eq_true, decide_eq_true_eq] at hi ⊢; omega)) (fun h => by first | rfl | cases h)) (Nat.le_of_ble_eq_true rfl) (ct_L_layPin (qtA (toT t) p q sM) 39 (Or.inl rfl) p q (pcT (toT t) p q) (by omega) (by omega)) dL_law_983 ?_
          refine z_iinc (pc := 986) (lv' := [(18, zI ((i861 : Int) + 1)), (22, zI (if (pcT t (tH t - 1 - q) p) = 63 then 0 else mkZ (pcT t (tH t - 1 - q) p))), (21, zI (pcT t (tH t - 1 - q) p)), (20, zI q), (19, zI p), (17, zI (tH t)), (16, zI i), (15, zI n), (12, zR 42), (11, zR 41), (6, zI h), (5, zI e), (4, zR 40), (3, zR 39), (2, zR 38), (1, zR 27), (0, zR 60)]) hc 4 rfl rfl (Nat.le_of_ble_eq_true rfl) dL_law_986 ?_
          refine z_goto (pc := 989) (tgt := 861) hc (by decide) dL_law_989 ?_
          refine zJW_sub (lv' := [(18, zI ((i861 : Int) + 1)), (17, zI (tH t)), (16, zI i), (15, zI n), (12, zR 42), (11, zR 41), (6, zI h), (5, zI e), (4, zR 40), (3, zR 39), (2, zR 38), (1, zR 27), (0, zR 60)]) [0, 5, 6, 7, 8, 9, 10, 11, 12, 13, 14, 15, 16] rfl ?_
          exact zJW_eq (by rfl) rfl (by exact e_s.symm) ih861
        refine z_cne (pc := 958) (tgt := 966) hc (by omega) (by decide) dL_law_958 (fun h958 => ?_) (fun h958 => ?_)
        · show zJW X 966 [(22, zI (if (pcT t (tH t - 1 - q) p) = 63 then 0 else mkZ (pcT t (tH t - 1 - q) p))), (21, zI (pcT t (tH t - 1 - q) p)), (20, zI q), (19, zI p), (18, zI (i861 : Int)), (17, zI (tH t)), (16, zI i), (15, zI n), (12, zR 42), (11, zR 41), (6, zI h), (5, zI e), (4, zR 40), (3, zR 39), (2, zR 38), (1, zR 27), (0, zR 60)] [zI q, zI p, zR 39] (qtA (toT t) p q sM)
          refine zJW_eq (lv' := [(22, zI (mkZ (pcT t (tH t - 1 - q) p))), (21, zI (pcT t (tH t - 1 - q) p)), (20, zI q), (19, zI p), (18, zI (i861 : Int)), (17, zI (tH t)), (16, zI i), (15, zI n), (12, zR 42), (11, zR 41), (6, zI h), (5, zI e), (4, zR 40), (3, zR 39), (2, zR 38), (1, zR 27), (0, zR 60)]) (by rw [if_neg (by omega)]) rfl rfl ?_
          refine z_ilw (pc := 966) hc 0 rfl dL_law_966 ?_
          refine z_iconst (pc := 968) hc 2 dL_law_968 ?_
          refine z_ishl (pc := 969) hc dL_law_969 ?_
          refine z_ilw (pc := 970) hc 0 rfl dL_law_970 ?_
          refine z_bipush (pc := 972) hc 6 (by decide) dL_law_972 ?_
          refine z_ishr (pc := 974) hc dL_law_974 ?_
          refine z_ior (pc := 975) hc dL_law_975 ?_
          refine z_sipush (pc := 976) hc 255 (by decide) dL_law_976 ?_
          refine z_iand (pc := 979) hc dL_law_979 ?_
          refine zJW_eq (st' := [zI (rtZ (mkZ (pcT t (tH t - 1 - q) p)) 2), zI q, zI p, zR 39]) rfl rfl rfl ?_
          refine kc_L_141 (pc := 980) hc rfl (zfitG (Nat.le_of_ble_eq_true rfl) (fun i hi => by first | cases hi | (simp only [zflX, zfl0, Bool.or_eq_true, decide_eq_true_eq] at hi ⊢; omega)) (fun h => by first | rfl | cases h)) (Nat.le_of_ble_eq_true rfl) (ct_L_shape (qtA (toT t) p q sM) (rtZ (mkZ (pcT t (tH t - 1 - q) p)) 2) (rtZ_bd _ _)) dL_law_980 ?_
          exact zJW_eq (by first | rfl | rw [if_neg (by omega)]) (by first | rw [hpc.1 (by omega)] | rw [(hpc.2 (by omega)).2, tu_sh (hpc.2 (by omega)).1]) (by rfl) hJ983
        · show zJW X 961 [(22, zI (if (pcT t (tH t - 1 - q) p) = 63 then 0 else mkZ (pcT t (tH t - 1 - q) p))), (21, zI (pcT t (tH t - 1 - q) p)), (20, zI q), (19, zI p), (18, zI (i861 : Int)), (17, zI (tH t)), (16, zI i), (15, zI n), (12, zR 42), (11, zR 41), (6, zI h), (5, zI e), (4, zR 40), (3, zR 39), (2, zR 38), (1, zR 27), (0, zR 60)] [zI q, zI p, zR 39] (qtA (toT t) p q sM)
          refine z_bipush (pc := 961) hc 63 (by decide) dL_law_961 ?_
          refine z_goto (pc := 963) (tgt := 983) hc (by decide) dL_law_963 ?_
          exact zJW_eq (by first | rfl | rw [if_neg (by omega)]) (by first | rw [hpc.1 (by omega)] | rw [(hpc.2 (by omega)).2, tu_sh (hpc.2 (by omega)).1]) (by rfl) hJ983
      refine z_cne (pc := 935) (tgt := 942) hc (by omega) (by decide) dL_law_935 (fun h935 => ?_) (fun h935 => ?_)
      · show zJW X 942 [(21, zI (pcT t (tH t - 1 - q) p)), (20, zI q), (19, zI p), (18, zI (i861 : Int)), (17, zI (tH t)), (16, zI i), (15, zI n), (12, zR 42), (11, zR 41), (6, zI h), (5, zI e), (4, zR 40), (3, zR 39), (2, zR 38), (1, zR 27), (0, zR 60)] [] (qtA (toT t) p q sM)
        refine z_ilw (pc := 942) hc 0 rfl dL_law_942 ?_
        refine kc_L_29 (pc := 944) hc rfl (zfitG (Nat.le_of_ble_eq_true rfl) (fun i hi => by first | cases hi | (simp only [zflX, zfl0, Bool.or_eq_true, decide_eq_true_eq] at hi ⊢; omega)) (fun h => by first | rfl | cases h)) (Nat.le_of_ble_eq_true rfl) (ct_L_mask (qtA (toT t) p q sM) (pcT t (tH t - 1 - q) p) (hpc.2 (by omega)).1) dL_law_944 ?_
        exact zJW_eq (by rfl) (by first | rw [if_neg (by omega)] | rw [if_pos (by omega)]) (by rfl) hJ947
      · show zJW X 938 [(21, zI (pcT t (tH t - 1 - q) p)), (20, zI q), (19, zI p), (18, zI (i861 : Int)), (17, zI (tH t)), (16, zI i), (15, zI n), (12, zR 42), (11, zR 41), (6, zI h), (5, zI e), (4, zR 40), (3, zR 39), (2, zR 38), (1, zR 27), (0, zR 60)] [] (qtA (toT t) p q sM)
        refine z_iconst (pc := 938) hc 0 dL_law_938 ?_
        refine z_goto (pc := 939) (tgt := 947) hc (by decide) dL_law_939 ?_
        exact zJW_eq (by rfl) (by first | rw [if_neg (by omega)] | rw [if_pos (by omega)]) (by rfl) hJ947

set_option maxRecDepth 100000 in
set_option maxHeartbeats 4000000 in
theorem law_turn_h {X : CX} {M : Mem} (hc : zCx (KL_law 43) X) (i n h e : Int) (hib : 0 ≤ i ∧ i ≤ 3) (hnb : 1 ≤ n ∧ n ≤ 3) (hx : n ≤ i → zJW X 998 [(16, zI i), (15, zI n), (12, zR 42), (11, zR 41), (6, zI h), (5, zI e), (4, zR 40), (3, zR 39), (2, zR 38), (1, zR 27), (0, zR 60)] [] M) (hs : i < n → zJW X 820 [(16, zI i), (15, zI n), (12, zR 42), (11, zR 41), (6, zI h), (5, zI e), (4, zR 40), (3, zR 39), (2, zR 38), (1, zR 27), (0, zR 60)] [] M) : zJW X 813 [(16, zI i), (15, zI n), (12, zR 42), (11, zR 41), (6, zI h), (5, zI e), (4, zR 40), (3, zR 39), (2, zR 38), (1, zR 27), (0, zR 60)] [] M := by
  refine z_ilw (pc := 813) hc 0 rfl dL_law_813 ?_
  refine z_ilw (pc := 815) hc 1 rfl dL_law_815 ?_
  refine z_cge (pc := 817) (tgt := 998) hc (by omega) (by decide) dL_law_817 (fun h817 => ?_) (fun h817 => ?_)
  · show zJW X 998 [(16, zI i), (15, zI n), (12, zR 42), (11, zR 41), (6, zI h), (5, zI e), (4, zR 40), (3, zR 39), (2, zR 38), (1, zR 27), (0, zR 60)] [] M
    exact hx h817
  · show zJW X 820 [(16, zI i), (15, zI n), (12, zR 42), (11, zR 41), (6, zI h), (5, zI e), (4, zR 40), (3, zR 39), (2, zR 38), (1, zR 27), (0, zR 60)] [] M
    exact hs h817

theorem law_turn_l {X : CX} {M : Mem} {t : TS} (hc : zCx (KL_law 43) X) (hO : TOk t) (n : Nat) (hn : 1 ≤ n ∧ n ≤ 3) (h e : Int) (hx : ∀ M1 : Mem, p4M M1 (toTn n t) → (∀ k : Nat, k < 38 → M1 k = M k) → zJW X 998 [(16, zI (n : Int)), (15, zI (n : Int)), (12, zR 42), (11, zR 41), (6, zI h), (5, zI e), (4, zR 40), (3, zR 39), (2, zR 38), (1, zR 27), (0, zR 60)] [] M1) : ∀ (d i : Nat) (M1 : Mem), i + d = n → p4M M1 (toTn i t) → (∀ k : Nat, k < 38 → M1 k = M k) → zJW X 813 [(16, zI (i : Int)), (15, zI (n : Int)), (12, zR 42), (11, zR 41), (6, zI h), (5, zI e), (4, zR 40), (3, zR 39), (2, zR 38), (1, zR 27), (0, zR 60)] [] M1
  | 0, i, M1, hd, hM, hk => by
    have hi : i = n := by omega
    subst hi
    exact law_turn_h hc i i h e (by omega) (by omega) (fun _ => hx M1 hM hk) (fun hlt => by omega)
  | d + 1, i, M1, hd, hM, hk => law_turn_h hc i n h e (by omega) (by omega) (fun hle => by omega) (fun _ =>
      law_turn_q hc (TOk_Tn hO i) hM i n h e (fun M2 hM2 hk2 => law_turn_l hc hO n hn h e hx d (i + 1) M2 (by omega) hM2 (fun k hk3 => (hk2 k hk3).trans (hk k hk3))))

set_option maxRecDepth 100000 in
set_option maxHeartbeats 4000000 in
theorem law_turn_x {X : CX} {M : Mem} {t : TS} (hc : zCx (KL_law 43) X) (hXb : XI M ∧ tsX M 0 = t) (n : Nat) (hn : 1 ≤ n ∧ n ≤ 3) (hO : TOk t) (hMb : p4M M (toTn n t)) (h e : Int) (hJ : ∀ (M1 : Mem) (t1 : TS), p4LI M1 t1 → zJW X 1384 [(13, zI 1), (6, zI h), (5, zI e), (4, zR 40), (3, zR 39), (2, zR 38), (1, zR 27), (0, zR 60)] [] M1) : zJW X 998 [(16, zI (n : Int)), (15, zI (n : Int)), (12, zR 42), (11, zR 41), (6, zI h), (5, zI e), (4, zR 40), (3, zR 39), (2, zR 38), (1, zR 27), (0, zR 60)] [] M := by
  have hOn := TOk_Tn hO n
  obtain ⟨hO1, hO2, hO3, hO4, hO5⟩ := id hOn
  refine z_ald (pc := 998) hc 9 rfl dL_law_998 ?_
  refine z_ilw (pc := 999) hc 1 rfl dL_law_999 ?_
  refine kg_L_144 (pc := 1001) hc rfl (zfitG (Nat.le_of_ble_eq_true rfl) (fun i hi => by first | cases hi | (simp only [zflX, zfl0, Bool.or_eq_true, decide_eq_true_eq] at hi ⊢; omega)) (fun h => by first | rfl | cases h)) (by rfl) (Nat.le_of_ble_eq_true rfl) (ct_X5_turn M hXb.1 (n : Int) (by omega)) dL_law_1001 (fun zr M1 hq => ?_)
  obtain ⟨rfl, hY⟩ := qi_turn (k := (n : Int)) hXb.1 hXb.2 (by omega) hq
  rw [Int.toNat_natCast] at hY ⊢
  have hM1 := p4M_hi hMb hY.2.2
  have g0 : M1 40 0 = tH (toTn n t) := hM1.2.2.1
  show zJW X 1004 [(16, zI (n : Int)), (15, zI (n : Int)), (12, zR 42), (11, zR 41), (6, zI h), (5, zI e), (4, zR 40), (3, zR 39), (2, zR 38), (1, zR 27), (0, zR 60)] [zI (tH (toTn n t))] M1
  refine z_alw (pc := 1004) hc 6 rfl dL_law_1004 ?_
  refine z_iconst (pc := 1006) hc 0 dL_law_1006 ?_
  refine z_iald (pc := 1007) hc (by decide) rfl rfl (by decide) (by omega) dL_law_1007 ?_
  refine z_cne (pc := 1008) (tgt := 1015) hc (by rw [g0]; omega) (by decide) dL_law_1008 (fun h1008 => ?_) (fun h1008 => ?_)
  · exfalso; rw [g0] at h1008; exact h1008 rfl
  · show zJW X 1011 [(16, zI (n : Int)), (15, zI (n : Int)), (12, zR 42), (11, zR 41), (6, zI h), (5, zI e), (4, zR 40), (3, zR 39), (2, zR 38), (1, zR 27), (0, zR 60)] [] M1
    refine z_iconst (pc := 1011) hc 1 dL_law_1011 ?_
    refine z_goto (pc := 1012) (tgt := 1016) hc (by decide) dL_law_1012 ?_
    refine z_isw (pc := 1016) (lv' := [(13, zI 1), (16, zI (n : Int)), (15, zI (n : Int)), (12, zR 42), (11, zR 41), (6, zI h), (5, zI e), (4, zR 40), (3, zR 39), (2, zR 38), (1, zR 27), (0, zR 60)]) hc rfl (Nat.le_of_ble_eq_true rfl) dL_law_1016 ?_
    refine z_goto (pc := 1018) (tgt := 1384) hc (by decide) dL_law_1018 ?_
    refine zJW_sub (lv' := [(13, zI 1), (6, zI h), (5, zI e), (4, zR 40), (3, zR 39), (2, zR 38), (1, zR 27), (0, zR 60)]) [0, 5, 6, 7, 8, 9, 10, 11] rfl ?_
    exact hJ M1 _ ⟨hY.1, hY.2.1, hOn, hM1⟩

set_option maxRecDepth 100000 in
set_option maxHeartbeats 4000000 in
theorem law_turn {X : CX} {M : Mem} {t : TS} (hc : zCx (KL_law 43) X) (hLI : p4LI M t) (h41 : p4F (M 41) t) (h42 : p4P (M 42) t) (e h kd r c : Int) (vb : Bool) (hi : inT t r c = true) (hJ : ∀ (M1 : Mem) (t1 : TS), p4LI M1 t1 → zJW X 1384 [(13, zI 1), (6, zI h), (5, zI e), (4, zR 40), (3, zR 39), (2, zR 38), (1, zR 27), (0, zR 60)] [] M1)  : zJW X 797 [(14, zI 0), (13, zI 1), (12, zR 42), (11, zR 41), (10, zI (zbz vb)), (9, zI c), (8, zI r), (7, zI kd), (6, zI h), (5, zI e), (4, zR 40), (3, zR 39), (2, zR 38), (1, zR 27), (0, zR 60)] [] M := by
  obtain ⟨hX, ht, hO, hM⟩ := id hLI
  obtain ⟨hF, hP, hT⟩ := id hM
  obtain ⟨hO1, hO2, hO3, hO4, hO5⟩ := id hO
  have hT1 := hT.1
  have hT2 := hT.2.1
  have hib := inT_bd hi
  have b1 := zan_bd (zsr h 15) (m := 2147483647) (by omega)
  obtain ⟨n, hn9⟩ : ∃ n : Nat, (n : Int) = 1 + zan (zsr h 15) 2147483647 % 3 := ⟨(1 + zan (zsr h 15) 2147483647 % 3).toNat, by omega⟩
  have hnb : 1 ≤ n ∧ n ≤ 3 := by omega
  refine z_iconst (pc := 797) hc 1 dL_law_797 ?_
  refine z_ilw (pc := 798) hc 8 rfl dL_law_798 ?_
  refine z_bipush (pc := 800) hc 15 (by decide) dL_law_800 ?_
  refine z_ishr (pc := 802) hc dL_law_802 ?_
  refine z_iconst (pc := 803) hc 3 dL_law_803 ?_
  refine kc_L_73 (pc := 804) hc rfl (zfitG (Nat.le_of_ble_eq_true rfl) (fun i hi => by first | cases hi | (simp only [zflX, zfl0, Bool.or_eq_true, decide_eq_true_eq] at hi ⊢; omega)) (fun h => by first | rfl | cases h)) (Nat.le_of_ble_eq_true rfl) (ct_L_low M (zsr h 15) 3 (by omega)) dL_law_804 ?_
  refine z_iadd (pc := 807) hc dL_law_807 ?_
  refine z_isw (pc := 808) (lv' := [(15, zI (1 + (zan (zsr h 15) 2147483647 % 3))), (14, zI 0), (13, zI 1), (12, zR 42), (11, zR 41), (10, zI (zbz vb)), (9, zI c), (8, zI r), (7, zI kd), (6, zI h), (5, zI e), (4, zR 40), (3, zR 39), (2, zR 38), (1, zR 27), (0, zR 60)]) hc rfl (Nat.le_of_ble_eq_true rfl) dL_law_808 ?_
  refine zJW_eq (lv' := [(15, zI (n : Int)), (14, zI 0), (13, zI 1), (12, zR 42), (11, zR 41), (10, zI (zbz vb)), (9, zI c), (8, zI r), (7, zI kd), (6, zI h), (5, zI e), (4, zR 40), (3, zR 39), (2, zR 38), (1, zR 27), (0, zR 60)]) (by rw [hn9]) rfl rfl ?_
  refine z_iconst (pc := 810) hc 0 dL_law_810 ?_
  refine z_isw (pc := 811) (lv' := [(16, zI 0), (15, zI (n : Int)), (14, zI 0), (13, zI 1), (12, zR 42), (11, zR 41), (10, zI (zbz vb)), (9, zI c), (8, zI r), (7, zI kd), (6, zI h), (5, zI e), (4, zR 40), (3, zR 39), (2, zR 38), (1, zR 27), (0, zR 60)]) hc rfl (Nat.le_of_ble_eq_true rfl) dL_law_811 ?_
  refine zJW_sub (lv' := [(16, zI 0), (15, zI (n : Int)), (12, zR 42), (11, zR 41), (6, zI h), (5, zI e), (4, zR 40), (3, zR 39), (2, zR 38), (1, zR 27), (0, zR 60)]) [0, 1, 4, 5, 10, 11, 12, 13, 14, 15, 16] rfl ?_
  exact law_turn_l hc hO n hnb h e (fun M1 hM1 hk => law_turn_x hc (p4Y_lo ⟨hX, ht⟩ hk) n hnb hO hM1 h e hJ) n 0 M (by omega) hM (fun _ _ => rfl)

