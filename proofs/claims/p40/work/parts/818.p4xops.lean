/-! ===== p40: what the calls answer and leave, in the words of a map ===== -/
def toTn (n : Nat) (t : TS) : TS := zrep (fun _ => toT) n t
theorem turn_Xn {M : Mem} (hS : zSk M 0) : ∀ n : Nat, trP M (zrep trS n M) ∧ tsX (zrep trS n M) 0 = toTn n (tsX M 0)
  | 0 => ⟨⟨hS, fun _ _ _ _ _ _ _ => rfl⟩, rfl⟩
  | n + 1 => by
    have ih := turn_Xn hS n
    refine ⟨trS_P ih.1, ?_⟩
    show tsX (trS n (zrep trS n M)) 0 = toT (toTn n (tsX M 0))
    rw [trS_ts ih.1.1, ih.2]
theorem trS_1 {M : Mem} {i : Nat} (hS : zSk M 0) : zSk (trS i M) 1 := by
  have h0 : zSk (copM M 1 0 144) 0 := zSk_congr (copM_offf (by decide) (by decide) (by decide)) (copM_offf (by decide) (by decide) (by decide)) (copM_offf (by decide) (by decide) (by decide)) hS
  have h1 : zSk (copM M 1 0 144) 1 := zSk_copM hS
  have g := (tuM_P h0 h1).2
  exact zSk_congr (g 1 (by decide) (by decide) (by decide)) (g _ (by decide) (by decide) (by decide)) (g _ (by decide) (by decide) (by decide)) h1
def p4Y (M M1 : Mem) (t' : TS) : Prop := XI M1 ∧ tsX M1 0 = t' ∧ ∀ k : Nat, 38 ≤ k → M1 k = M k
theorem p4Y_rec {M M1 : Mem} {t' : TS} (h : XI M) (e1 : ∀ k : Nat, k ≠ 0 → k ≠ 9 → k ≠ 18 → k ≠ 1 → k ≠ 10 → k ≠ 19 → k ≠ 33 → k ≠ 34 → k ≠ 35 → M1 k = recM M k) (s0 : zSk M1 0) (s1 : zSk M1 1) (ht : tsX M1 0 = t') : p4Y M M1 t' := ⟨(XI_rec h e1 s0 s1).1, ht, (XI_rec h e1 s0 s1).2⟩
theorem p4Y_lo {M M' : Mem} {t : TS} (h : XI M ∧ tsX M 0 = t) (e : ∀ k : Nat, k < 38 → M' k = M k) : XI M' ∧ tsX M' 0 = t := ⟨XI_congr (fun k a _ => e k (by omega)) h.1, (tsX_congr (e 0 (by decide)) (e 9 (by decide)) (e 18 (by decide))).trans h.2⟩
theorem p4M_hi {M M' : Mem} {t : TS} (h : p4M M t) (e : ∀ k : Nat, 38 ≤ k → M' k = M k) : p4M M' t := by
  unfold p4M
  rw [e 38 (by decide), e 39 (by decide), e 40 (by decide)]
  exact h
theorem recM_s {M : Mem} (h : XI M) : zSk (recM M) 0 ∧ zSk (recM M) 1 := ⟨recM_S h.2.2 h.2.1 0 (by decide), recM_S h.2.2 h.2.1 1 (by decide)⟩
section P4O
variable {M M1 : Mem} {t : TS} {zr : Option Int} {r c : Int}
theorem qi_set {b : Bool} (hX : XI M) (ht : tsX M 0 = t) (hO : TOk t) (hi : inT t r c = true) (hq : zr = some (if inT (tsX M 0) r c = true then (if laT (tsX M 0) r c = b then 0 else rbT (tsX M 0) r c) else -1) ∧ M1 = (if inT (tsX M 0) r c = true then putK (recM M) 0 r c b else M)) :
    zr = some (otS (tsS t r c b) t) ∧ p4Y M M1 (tsS t r c b) := by
  rw [ht, if_pos hi, if_pos hi] at hq
  obtain ⟨s0, s1⟩ := recM_s hX
  rw [hq.1, hq.2, ot_rs hO (TOk_S hO) tsS_d.1 tsS_d.2.1, rsS_S hO hi]
  refine ⟨rfl, p4Y_rec hX (fun k _ h9 h18 _ _ _ _ _ _ => putK_off h9 h18) (zSk_putK s0) (zSk_congr (putK_off (by decide) (by decide)) (putK_off (by decide) (by decide)) (putK_off (by decide) (by decide)) s1) ?_⟩
  rw [tsX_putK s0, recM_ts hX, ht]
theorem qi_out {b : Bool} (hX : XI M) (ht : tsX M 0 = t) (hO : TOk t) (hq : zr = some (if tO (tsX M 0) = b then 0 else roA (tsX M 0)) ∧ M1 = (zup (recM M) 0 2 (zbz b))) :
    zr = some (otS (tsO t b) t) ∧ p4Y M M1 (tsO t b) := by
  rw [ht] at hq
  obtain ⟨s0, s1⟩ := recM_s hX
  rw [hq.1, hq.2, ot_rs hO (TOk_O (b := b) hO) rfl rfl, rsS_O hO]
  refine ⟨rfl, p4Y_rec hX (fun k h0 _ _ _ _ _ _ _ _ => zup_ne h0) ?_ (zSk_congr (zup_ne (by decide)) (zup_ne (by decide)) (zup_ne (by decide)) s1) ?_⟩
  · obtain ⟨a1, a2, a3, a4, a5, a6, a7⟩ := s0
    unfold zSk
    rw [zup_off (by decide), zup_off (by decide), zup_at, zup_ne (by decide : 0 + 9 ≠ 0), zup_ne (by decide : 0 + 18 ≠ 0)]
    exact ⟨a1, a2, a3, a4, zbz_cases b, a6, a7⟩
  · rw [tsX_Out, recM_ts hX, ht]
theorem qi_begin {h w : Int} (hX : XI M) (ht : tsX M 0 = t) (hh : 1 ≤ h ∧ h ≤ 12) (hw : 1 ≤ w ∧ w ≤ 12) (hq : zr = some (if 1 ≤ h ∧ h ≤ 12 ∧ 1 ≤ w ∧ w ≤ 12 then h * w else -2) ∧ M1 = (if 1 ≤ h ∧ h ≤ 12 ∧ 1 ≤ w ∧ w ≤ 12 then watM (recM M) 0 h w 144 else M)) :
    zr = some (h * w) ∧ p4Y M M1 (tsW h w (tO t)) := by
  rw [if_pos ⟨hh.1, hh.2, hw.1, hw.2⟩, if_pos ⟨hh.1, hh.2, hw.1, hw.2⟩] at hq
  obtain ⟨s0, s1⟩ := recM_s hX
  rw [hq.1, hq.2]
  refine ⟨rfl, p4Y_rec hX (fun k h0 h9 h18 _ _ _ _ _ _ => watM_off h0 h9 h18) (zSk_watM hh hw s0.2.2.2.2.1) (zSk_congr (watM_off (by decide) (by decide) (by decide)) (watM_off (by decide) (by decide) (by decide)) (watM_off (by decide) (by decide) (by decide)) s1) ?_⟩
  rw [tsX_watM hh hw, ← ht]
  have h2 : recM M 0 2 = M 0 2 := congrFun (recM_off hX.2.2 (by decide) (by decide) (by omega)) 2
  rw [h2]
  rfl
theorem tsP_none (hi : inT t r c = true) (h : piT t r c = -1) : tsP t r c (-1) = t := by
  unfold tsP
  rw [if_pos hi]
  have h2 : t.2.2.2.2 r c = -1 := by
    unfold piT at h
    rw [if_pos hi] at h
    exact h
  have h3 : (fun r' c' => if r' = r ∧ c' = c then (-1 : Int) else t.2.2.2.2 r' c') = t.2.2.2.2 := by
    funext r' c'
    by_cases e : r' = r ∧ c' = c
    · rw [if_pos e, e.1, e.2, h2]
    · rw [if_neg e]
  rw [h3]
  rfl
theorem qi_pin {s : Int} (hX : XI M) (ht : tsX M 0 = t) (hi : inT t r c = true) (hl : laT t r c = true) (hs : 0 ≤ s ∧ s < 47) (hq : zr = some (if inT (tsX M 0) r c = true ∧ 0 ≤ s ∧ s < 47 then (if laT (tsX M 0) r c then faT (tsX (putP (recM M) 0 r c s) 0) r c else -3) else -1) ∧ M1 = (if (inT (tsX M 0) r c = true ∧ 0 ≤ s ∧ s < 47) ∧ laT (tsX M 0) r c = true then (putP (recM M) 0 r c s) else M)) :
    zr = some (bcZ (zxr (mkZ s) (rdZ (arT t r c)))) ∧ p4Y M M1 (tsP t r c s) := by
  rw [ht, if_pos ⟨hi, hs⟩, if_pos hl, if_pos ⟨⟨hi, hs⟩, hl⟩] at hq
  obtain ⟨s0, s1⟩ := recM_s hX
  have e1 : tsX (putP (recM M) 0 r c s) 0 = tsP t r c s := by rw [tsX_putP s0, recM_ts hX, ht]
  rw [e1] at hq
  rw [hq.1, hq.2]
  refine ⟨congrArg some ?_, p4Y_rec hX (fun k _ _ h18 _ _ _ _ _ _ => putP_off h18) (zSk_putP (by omega) s0) (zSk_congr (putP_off (by decide)) (putP_off (by decide)) (putP_off (by decide)) s1) e1⟩
  have ha : arT (tsP t r c s) r c = arT t r c := zmk_congr fun d _ => laT_tsP
  have hp : piT (tsP t r c s) r c = s := by rw [piT_tsP hi, if_pos ⟨rfl, rfl⟩]
  unfold faT rmT
  rw [hp, if_pos (by omega), ha]
theorem qi_pin0 {s : Int} (ht : tsX M 0 = t) (hX : XI M) (hi : inT t r c = true) (hl : laT t r c = false) (hs : 0 ≤ s ∧ s < 47) (hq : zr = some (if inT (tsX M 0) r c = true ∧ 0 ≤ s ∧ s < 47 then (if laT (tsX M 0) r c then faT (tsX (putP (recM M) 0 r c s) 0) r c else -3) else -1) ∧ M1 = (if (inT (tsX M 0) r c = true ∧ 0 ≤ s ∧ s < 47) ∧ laT (tsX M 0) r c = true then (putP (recM M) 0 r c s) else M)) :
    zr = some (-3) ∧ p4Y M M1 t := by
  rw [ht, if_pos ⟨hi, hs⟩, hl, if_neg (by decide), if_neg (fun h => by cases h.2)] at hq
  rw [hq.1, hq.2]
  exact ⟨rfl, hX, ht, fun _ _ => rfl⟩
theorem qi_unpin (hX : XI M) (ht : tsX M 0 = t) (hi : inT t r c = true) (hq : zr = some (if inT (tsX M 0) r c = true then (if piT (tsX M 0) r c ≠ -1 then piT (tsX M 0) r c else -3) else -1) ∧ M1 = (if inT (tsX M 0) r c = true ∧ piT (tsX M 0) r c ≠ -1 then (putP (recM M) 0 r c (-1)) else M)) :
    zr = some (if piT t r c ≠ -1 then piT t r c else -3) ∧ p4Y M M1 (tsP t r c (-1)) := by
  rw [ht, if_pos hi] at hq
  obtain ⟨s0, s1⟩ := recM_s hX
  by_cases hp : piT t r c = -1
  · rw [if_neg (fun h => h hp), if_neg (fun h => h.2 hp)] at hq
    rw [hq.1, hq.2, if_neg (fun h => h hp), tsP_none hi hp]
    exact ⟨rfl, hX, ht, fun _ _ => rfl⟩
  · rw [if_pos hp, if_pos ⟨hi, hp⟩] at hq
    rw [hq.1, hq.2, if_pos hp]
    refine ⟨rfl, p4Y_rec hX (fun k _ _ h18 _ _ _ _ _ _ => putP_off h18) (zSk_putP (by omega) s0) (zSk_congr (putP_off (by decide)) (putP_off (by decide)) (putP_off (by decide)) s1) ?_⟩
    rw [tsX_putP s0, recM_ts hX, ht]
theorem qi_brush {k : Int} {b : Bool} (hX : XI M) (ht : tsX M 0 = t) (hi : inT t r c = true) (hk : 0 ≤ k ∧ k ≤ 5) (hq : zr = some (if inT (tsX M 0) r c = true then (if 0 ≤ k ∧ k ≤ 5 then (zrep (brO r c k b) (2 * k + 1).toNat (recM M, 0)).2 else -2) else -1) ∧ M1 = (if inT (tsX M 0) r c = true ∧ 0 ≤ k ∧ k ≤ 5 then (zrep (brO r c k b) (2 * k + 1).toNat (recM M, 0)).1 else M)) :
    zr = some (tsVc t (zdk r c k) (fun _ _ => b)) ∧ p4Y M M1 (tsV t (zdk r c k) (fun _ _ => b)) := by
  rw [ht, if_pos hi, if_pos hk, if_pos ⟨hi, hk⟩] at hq
  obtain ⟨s0, s1⟩ := recM_s hX
  obtain ⟨g1, g2, g3, g4⟩ := brush_X (t := t) (M := recM M) (r := r) (c := c) (k := k) (b := b) ((recM_ts hX).trans ht) s0 hk.1
  rw [hq.1, hq.2]
  exact ⟨congrArg some g2, p4Y_rec hX (fun k _ h9 h18 _ _ _ _ _ _ => g4 k h9 h18) g3 (zSk_congr (g4 _ (by decide) (by decide)) (g4 _ (by decide) (by decide)) (g4 _ (by decide) (by decide)) s1) g1⟩
theorem qi_smooth {k : Int} (hX : XI M) (ht : tsX M 0 = t) (hO : TOk t) (hk : 1 ≤ k ∧ k ≤ 9) (hq : zr = some (if 1 ≤ k ∧ k ≤ 9 then (zrep (smO (tsX (copM (recM M) 1 0 144) 1) k) (tH (tsX (copM (recM M) 1 0 144) 1)).toNat ((copM (recM M) 1 0 144), 0)).2 else -2) ∧ M1 = (if 1 ≤ k ∧ k ≤ 9 then (zrep (smO (tsX (copM (recM M) 1 0 144) 1) k) (tH (tsX (copM (recM M) 1 0 144) 1)).toNat ((copM (recM M) 1 0 144), 0)).1 else M)) :
    zr = some (tsVc t (fun _ _ => True) (fun r c => decide (k ≤ bcZ (arT t r c) + zbz (laT t r c)))) ∧ p4Y M M1 (tsV t (fun _ _ => True) (fun r c => decide (k ≤ bcZ (arT t r c) + zbz (laT t r c)))) := by
  obtain ⟨s0, s1⟩ := recM_s hX
  have e1 : tsX (copM (recM M) 1 0 144) 1 = t := (tsX_copM s0).trans ((recM_ts hX).trans ht)
  have e0 : tsX (copM (recM M) 1 0 144) 0 = t := (tsX_congr (copM_offf (by decide) (by decide) (by decide)) (copM_offf (by decide) (by decide) (by decide)) (copM_offf (by decide) (by decide) (by decide))).trans ((recM_ts hX).trans ht)
  have z0 : zSk (copM (recM M) 1 0 144) 0 := zSk_congr (copM_offf (by decide) (by decide) (by decide)) (copM_offf (by decide) (by decide) (by decide)) (copM_offf (by decide) (by decide) (by decide)) s0
  rw [if_pos hk, if_pos hk, e1] at hq
  obtain ⟨P, ⟨g1, g2, g3, g4⟩, hP⟩ := smooth_X (t := t) (M := copM (recM M) 1 0 144) (l := k) e0 z0 ⟨by have := hO.1; omega, by have := hO.2.2.1; omega⟩
  have hc := tsV_congr (t := t) (P := P) (P' := fun _ _ => True) (v := fun r c => decide (k ≤ bcZ (arT t r c) + zbz (laT t r c))) (v' := fun r c => decide (k ≤ bcZ (arT t r c) + zbz (laT t r c))) (fun r c hi => ⟨fun _ => trivial, fun _ => hP r c hi⟩) (fun _ _ _ _ => rfl)
  rw [hc.1] at g1
  rw [hc.2] at g2
  rw [hq.1, hq.2]
  refine ⟨congrArg some g2, p4Y_rec hX (fun k h0 h9 h18 h1 h10 h19 _ _ _ => (g4 k h9 h18).trans (copM_offf h1 h10 h19)) g3 ?_ g1⟩
  exact zSk_congr (g4 _ (by decide) (by decide)) (g4 _ (by decide) (by decide)) (g4 _ (by decide) (by decide)) (zSk_copM s0)
theorem qi_turn {k : Int} (hX : XI M) (ht : tsX M 0 = t) (hk : 1 ≤ k ∧ k ≤ 3) (hq : zr = some (if 1 ≤ k ∧ k ≤ 3 then zrep trS k.toNat (recM M) 0 0 else -2) ∧ M1 = (if 1 ≤ k ∧ k ≤ 3 then zrep trS k.toNat (recM M) else M)) :
    zr = some (tH (toTn k.toNat t)) ∧ p4Y M M1 (toTn k.toNat t) := by
  rw [if_pos hk, if_pos hk] at hq
  obtain ⟨s0, s1⟩ := recM_s hX
  obtain ⟨⟨g3, g4⟩, g1⟩ := turn_Xn (M := recM M) s0 k.toNat
  rw [recM_ts hX, ht] at g1
  rw [hq.1, hq.2]
  refine ⟨congrArg some ?_, p4Y_rec hX (fun k h0 h9 h18 h1 h10 h19 _ _ _ => g4 k h0 h9 h18 h1 h10 h19) g3 ?_ g1⟩
  · rw [← g1]; rfl
  · obtain ⟨n, hn⟩ : ∃ n, k.toNat = n + 1 := ⟨k.toNat - 1, by omega⟩
    rw [hn]
    exact trS_1 (turn_Xn (M := recM M) s0 n).1.1
theorem qi_fill {b : Bool} (hX : XI M) (ht : tsX M 0 = t) (hi : inT t r c = true) (hl : laT t r c ≠ b) (hq : zr = some (if inT (tsX M 0) r c = true then (if laT (tsX M 0) r c = b then 0 else (zrep (fiO (fgR (recM M) r c 2) b (M 0 1).toNat) (M 0 0).toNat (fgR (recM M) r c 2)) 33 2) else -1) ∧ M1 = (if inT (tsX M 0) r c = true then (if laT (tsX M 0) r c = b then (recM M) else (zrep (fiO (fgR (recM M) r c 2) b (M 0 1).toNat) (M 0 0).toNat (fgR (recM M) r c 2))) else M)) :
    zr = some (nC t 2 r c) ∧ p4Y M M1 (tsV t (fun r' c' => dT t r c 2 r' c' ≠ -1) (fun _ _ => b)) := by
  obtain ⟨s0, s1⟩ := recM_s hX
  have er : tsX (recM M) 0 = t := (recM_ts hX).trans ht
  have hR := fgR_reg (M := recM M) (r := r) (c := c) (e := 2) (Or.inr rfl) s0 (by rw [er]; exact hi)
  have hP := fgR_P (M := recM M) (r := r) (c := c) (e := 2) s0
  have ex : tsX (fgR (recM M) r c 2) 0 = t := hP.1.2.1.trans (fgX_ts.trans er)
  obtain ⟨P, ⟨g1, g2, g3⟩, hPP⟩ := fill_X (t := t) (G := fgR (recM M) r c 2) (b := b) ex hP.1.1
  have eH : M 0 0 = tH t := congrArg tH ht
  have eW : M 0 1 = tW t := congrArg tW ht
  rw [ht, if_pos hi, if_neg hl, if_pos hi, if_neg hl, eH, eW] at hq
  rw [er] at hR
  have hc := tsV_congr (t := t) (P := P) (P' := fun r' c' => dT t r c 2 r' c' ≠ -1) (v := fun _ _ => b) (v' := fun _ _ => b) (fun r' c' hi' => by
    rw [hPP r' c' hi', hR.2 r' c' hi']
    exact Iff.rfl) (fun _ _ _ _ => rfl)
  rw [hc.1] at g1
  rw [hq.1, hq.2]
  have e33 : zrep (fiO (fgR (recM M) r c 2) b (tW t).toNat) (tH t).toNat (fgR (recM M) r c 2) 33 = fgR (recM M) r c 2 33 := g3 33 (by decide) (by decide)
  rw [e33, hR.1]
  refine ⟨rfl, p4Y_rec hX (fun k _ h9 h18 _ _ _ h33 h34 h35 => (g3 k h9 h18).trans ((hP.1.2.2.1 k h33 h34 h35).trans (fgX_off h35))) g2 ?_ g1⟩
  exact zSk_congr ((g3 _ (by decide) (by decide)).trans ((hP.1.2.2.1 _ (by decide) (by decide) (by decide)).trans (fgX_off (by decide)))) ((g3 _ (by decide) (by decide)).trans ((hP.1.2.2.1 _ (by decide) (by decide) (by decide)).trans (fgX_off (by decide)))) ((g3 _ (by decide) (by decide)).trans ((hP.1.2.2.1 _ (by decide) (by decide) (by decide)).trans (fgX_off (by decide)))) s1
theorem qi_fill0 {b : Bool} (hX : XI M) (ht : tsX M 0 = t) (hi : inT t r c = true) (hl : laT t r c = b) (hq : zr = some (if inT (tsX M 0) r c = true then (if laT (tsX M 0) r c = b then 0 else (zrep (fiO (fgR (recM M) r c 2) b (M 0 1).toNat) (M 0 0).toNat (fgR (recM M) r c 2)) 33 2) else -1) ∧ M1 = (if inT (tsX M 0) r c = true then (if laT (tsX M 0) r c = b then (recM M) else (zrep (fiO (fgR (recM M) r c 2) b (M 0 1).toNat) (M 0 0).toNat (fgR (recM M) r c 2))) else M)) :
    zr = some 0 ∧ p4Y M M1 t := by
  obtain ⟨s0, s1⟩ := recM_s hX
  rw [ht, if_pos hi, if_pos hl, if_pos hi, if_pos hl] at hq
  rw [hq.1, hq.2]
  exact ⟨rfl, p4Y_rec hX (fun _ _ _ _ _ _ _ _ _ _ => rfl) s0 s1 ((recM_ts hX).trans ht)⟩
end P4O
