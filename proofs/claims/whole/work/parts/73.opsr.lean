/-! ===== the calls that record and change the map ===== -/
theorem recF {M : Mem} (h : SR M) : XI (recM M) ∧ tsX (recM M) 0 = tsX M 0 ∧ recM M 0 = M 0 ∧ zSk (recM M) 0 ∧ zSk (recM M) 1 ∧ ∀ k : Nat, 38 ≤ k → recM M k = M k := by
  have hI := h.1.1
  have hI1 := recM_XI hI
  exact ⟨hI1, recM_ts hI, recM_off hI.2.2 (by decide) (by decide) (by omega), hI1.2.1 0 (by decide), hI1.2.1 1 (by decide), fun k hk => recM_off hI.2.2 (by omega) (by omega) (by omega)⟩
theorem zgR_hi {M M1 : Mem} (h : zgR M) (e : ∀ k : Nat, 38 ≤ k → M1 k = M k) : zgR M1 := GR_congr (eqR_hi e) h
theorem recR39 {M M1 : Mem} (e : ∀ k : Nat, 38 ≤ k → M1 k = M k) : recR M1 39 = M 39 := (recR_off (by decide) (by decide)).trans (e 39 (by decide))
theorem TOk_t {M : Mem} (h : SR M) : TOk (tsX M 0) := by rw [SR_t h]; exact SR_O h
theorem bgR_39 {N : Mem} {r c z : Int} : bgR N r c 39 0 = r ∧ bgR N r c 39 1 = c ∧ bgR N r c 39 2 = recR N 39 2 := by
  unfold bgR
  refine ⟨?_, ?_, ?_⟩
  · rw [watR_z (by omega), zup_off (by omega), zup_at]
  · rw [watR_z (by omega), zup_at]
  · rw [watR_z (by omega), zup_off (by omega), zup_off (by omega)]
theorem watR_t {N : Mem} {i : Int} (h : 0 ≤ i ∧ i < 144) : watR N 144 39 (3 + i) = 0 ∧ watR N 144 39 (147 + i) = -6 := by
  constructor
  · simp only [watR]
    rw [if_pos ⟨trivial, by omega⟩]
  · simp only [watR]
    rw [if_neg (by omega), if_pos ⟨trivial, by omega⟩]
theorem zRf_bg {N : Mem} {r c : Int} (hr : 1 ≤ r ∧ r ≤ 12) (hc : 1 ≤ c ∧ c ≤ 12) (h2 : recR N 39 2 = 0 ∨ recR N 39 2 = 1) : zRf (bgR N r c 39) := by
  obtain ⟨b0, b1, b2⟩ := bgR_39 (N := N) (r := r) (c := c) (z := 0)
  refine ⟨by rw [b0]; omega, by rw [b0]; omega, by rw [b1]; omega, by rw [b1]; omega, by rw [b2]; exact h2, fun i x y => Or.inl ?_, fun i x y => Or.inl ?_⟩
  · exact (watR_t ⟨x, y⟩).1
  · exact (watR_t ⟨x, y⟩).2
theorem tsZ_bg {N : Mem} {r c : Int} (hr : 1 ≤ r ∧ r ≤ 12) (hc : 1 ≤ c ∧ c ≤ 12) : tsZ (bgR N r c 39) = tsW r c (decide (recR N 39 2 = 1)) := by
  obtain ⟨b0, b1, b2⟩ := bgR_39 (N := N) (r := r) (c := c) (z := 0)
  have hw := zhw hr.1 hr.2 hc.1 hc.2
  refine ts_ext b0 b1 (by show decide _ = decide _; rw [b2]) (fun p q => ?_) (fun p q => ?_)
  · show (decide (0 ≤ p ∧ p < bgR N r c 39 0 ∧ 0 ≤ q ∧ q < bgR N r c 39 1) && decide (bgR N r c 39 (3 + (bgR N r c 39 1 * p + q)) = 1)) = false
    rw [b0, b1]
    by_cases h : 0 ≤ p ∧ p < r ∧ 0 ≤ q ∧ q < c
    · have ix := zix (h := r) (w := c) ⟨h.1, h.2.1⟩ ⟨h.2.2.1, h.2.2.2⟩
      rw [show bgR N r c 39 (3 + (c * p + q)) = 0 from (watR_t ⟨ix.1, by omega⟩).1]
      simp
    · rw [decide_eq_false h, Bool.false_and]
  · show (if 0 ≤ p ∧ p < bgR N r c 39 0 ∧ 0 ≤ q ∧ q < bgR N r c 39 1 then (if bgR N r c 39 (147 + (bgR N r c 39 1 * p + q)) = -6 then -1 else bgR N r c 39 (147 + (bgR N r c 39 1 * p + q))) else -1) = -1
    rw [b0, b1]
    by_cases h : 0 ≤ p ∧ p < r ∧ 0 ≤ q ∧ q < c
    · have ix := zix (h := r) (w := c) ⟨h.1, h.2.1⟩ ⟨h.2.2.1, h.2.2.2⟩
      rw [if_pos h, if_pos (show bgR N r c 39 (147 + (c * p + q)) = -6 from (watR_t ⟨ix.1, by omega⟩).2)]
    · rw [if_neg h]
theorem TOk_W {r c : Int} {o : Bool} (hr : 1 ≤ r ∧ r ≤ 12) (hc : 1 ≤ c ∧ c ≤ 12) : TOk (tsW r c o) := ⟨hr.1, hr.2, hc.1, hc.2, fun p q => Or.inl (by
  show (if inT (tsW r c o) p q then (-1 : Int) else -1) = -1
  split <;> rfl)⟩
theorem zop_begin {M : Mem} (h : SR M) (r c : Int) : zgR (xM_begin M r c) ∧ rR_begin (xM_begin M r c) r c = xR_begin M r c ∧ SR (rM_begin (xM_begin M r c) r c) := by
  obtain ⟨hI1, ht1, h0, hS0, hS1, hhi⟩ := recF h
  unfold rM_begin xM_begin
  by_cases hb : 1 ≤ r ∧ r ≤ 12 ∧ 1 ≤ c ∧ c ≤ 12
  · rw [if_pos hb, if_pos hb]
    have hr : 1 ≤ r ∧ r ≤ 12 := ⟨hb.1, hb.2.1⟩
    have hc : 1 ≤ c ∧ c ≤ 12 := hb.2.2
    have e : ∀ k : Nat, 38 ≤ k → watM (recM M) 0 r c 144 k = M k := fun k hk => (watM_off (by omega) (by omega) (by omega)).trans (hhi k hk)
    have hg := zgR_hi h.2.1 e
    have e39 := recR39 e
    have ho := hS0.2.2.2.2.1
    have hOut : decide (recM M 0 2 = 1) = decide (M 39 2 = 1) := by
      rw [h0]
      exact congrArg tO (SR_t h)
    refine ⟨hg, rfl, SR_rec h (fun k a b d _ _ _ _ _ _ => watM_off a b d) (zSk_watM hr hc ho) (zSk_congr (watM_off (by decide) (by decide) (by decide)) (watM_off (by decide) (by decide) (by decide)) (watM_off (by decide) (by decide) (by decide)) hS1) (fun k a b _ _ _ _ _ _ => ?_) (fun z _ => ?_) (zRf_bg hr hc ?_) ?_ ?_⟩
    · unfold bgR
      rw [watR_off b, zup_ne b, zup_ne b]
    · unfold bgR
      rw [watR_off (by decide), zup_ne (by decide), zup_ne (by decide)]
    · rw [e39]; exact (SR_Z h).2.2.2.2.1
    · rw [tsZ_bg hr hc]; exact TOk_W hr hc
    · rw [tsX_watM hr hc, tsZ_bg hr hc, e39, hOut]
  · rw [if_neg hb, if_neg hb]
    exact ⟨h.2.1, rfl, h⟩
theorem tsX_Out {Q : Mem} {b : Bool} : tsX (zup Q 0 2 (zbz b)) 0 = tsO (tsX Q 0) b := by
  have e0 : zup Q 0 2 (zbz b) 0 0 = Q 0 0 := zup_off (by decide)
  have e1 : zup Q 0 2 (zbz b) 0 1 = Q 0 1 := zup_off (by decide)
  have e2 : zup Q 0 2 (zbz b) 0 2 = zbz b := zup_at _ _ _ _
  have e9 : zup Q 0 2 (zbz b) (0 + 9) = Q (0 + 9) := zup_ne (by decide)
  have e18 : zup Q 0 2 (zbz b) (0 + 18) = Q (0 + 18) := zup_ne (by decide)
  refine ts_ext e0 e1 (by show decide (zup Q 0 2 (zbz b) 0 2 = 1) = b; rw [e2]; cases b <;> decide) (fun r c => ?_) (fun r c => ?_)
  · show (decide (0 ≤ r ∧ r < zup Q 0 2 (zbz b) 0 0 ∧ 0 ≤ c ∧ c < zup Q 0 2 (zbz b) 0 1) && decide (zup Q 0 2 (zbz b) (0 + 9) (r * 12 + c) = 1)) = _
    rw [e0, e1, e9]
    rfl
  · show (if 0 ≤ r ∧ r < zup Q 0 2 (zbz b) 0 0 ∧ 0 ≤ c ∧ c < zup Q 0 2 (zbz b) 0 1 then zup Q 0 2 (zbz b) (0 + 18) (r * 12 + c) else -1) = _
    rw [e0, e1, e18]
    rfl
theorem zop_setOutside {M : Mem} (h : SR M) (b : Bool) : zgR (xM_setOutside M b) ∧ rR_setOutside (xM_setOutside M b) b = xR_setOutside M b ∧ SR (rM_setOutside (xM_setOutside M b) b) := by
  obtain ⟨hI1, ht1, h0, hS0, hS1, hhi⟩ := recF h
  have e : ∀ k : Nat, 38 ≤ k → xM_setOutside M b k = M k := fun k hk => (zup_ne (by omega)).trans (hhi k hk)
  have hg := zgR_hi h.2.1 e
  have e39 := recR39 e
  generalize hQ : xM_setOutside M b = Q at e hg e39 ⊢
  have hQ2 : Q = zup (recM M) 0 2 (zbz b) := hQ.symm
  have l9 : lsR (recR Q) (recR Q 39 0 * recR Q 39 1) 39 = M 39 := (lsR_off (by decide)).trans e39
  have tX : tsX Q 0 = tsO (tsX M 0) b := by rw [hQ2, tsX_Out, ht1]
  have tR : tsZ (rM_setOutside Q b 39) = tsO (tsX M 0) b := by
    show tsZ (zup (lsR (recR Q) (recR Q 39 0 * recR Q 39 1)) 39 2 (zbz b) 39) = _
    rw [tsZ_O, l9, SR_t h]
  have hz : zRf (rM_setOutside Q b 39) := zRf_O (by rw [l9]; exact SR_Z h)
  refine ⟨hg, ?_, SR_rec h (fun k a _ _ _ _ _ _ _ _ => by rw [hQ2]; exact zup_ne a) (by rw [hQ2]; exact zSk_o hS0) (by rw [hQ2]; exact zSk_congr (zup_ne (by decide)) (zup_ne (by decide)) (zup_ne (by decide)) hS1) (fun k _ a d _ _ _ _ _ => (zup_ne a).trans (lsR_off d)) (fun z _ => by rw [show rM_setOutside Q b 38 = recR Q 38 from (zup_ne (by decide)).trans (lsR_off (by decide))]) hz (by rw [tR]; exact TOk_O (TOk_t h)) (tX.trans tR.symm)⟩
  show rsC (rM_setOutside Q b) = (if tO (tsX M 0) = b then 0 else roA (tsX M 0))
  rw [rsC_eq (t := tsX M 0) tR rfl rfl hz (fun k a d => ?_), rsS_O (TOk_t h)]
  show zup (lsR (recR Q) (recR Q 39 0 * recR Q 39 1)) 39 2 (zbz b) 45 k = _
  rw [zup_ne (by decide), lsR_at ⟨a, by rw [e39]; rw [SR_t h] at d; exact d⟩, e39, SR_t h]
  rfl
theorem zop_set {M : Mem} (h : SR M) (r c : Int) (b : Bool) : zgR (xM_set M r c b) ∧ rR_set (xM_set M r c b) r c b = xR_set M r c b ∧ SR (rM_set (xM_set M r c b) r c b) := by
  obtain ⟨hI1, ht1, h0, hS0, hS1, hhi⟩ := recF h
  by_cases hi : inT (tsX M 0) r c = true
  · have e : ∀ k : Nat, 38 ≤ k → xM_set M r c b k = M k := fun k hk => by
      unfold xM_set
      rw [if_pos hi]
      exact (putK_off (by omega) (by omega)).trans (hhi k hk)
    have hg := zgR_hi h.2.1 e
    have e39 := recR39 e
    have f39 := e 39 (by decide)
    have hQ2 : xM_set M r c b = putK (recM M) 0 r c b := by unfold xM_set; rw [if_pos hi]
    generalize xM_set M r c b = Q at e hg e39 f39 hQ2 ⊢
    have hin : inT (tsZ (M 39)) r c = true := by rw [← SR_t h]; exact hi
    have hb := hin
    rw [inT_Z] at hb
    have hb := of_decide_eq_true hb
    have l9 : lsR (recR Q) (recR Q 39 0 * recR Q 39 1) 39 = M 39 := (lsR_off (by decide)).trans e39
    have hk := inT_at hin
    have hw := zhw (SR_Z h).1 (SR_Z h).2.1 (SR_Z h).2.2.1 (SR_Z h).2.2.2.1
    have eM : rM_set Q r c b = becR (lsR (recR Q) (recR Q 39 0 * recR Q 39 1)) (Q 39 1 * r + c) b := by
      unfold rM_set
      rw [if_pos (by rw [f39]; exact hin)]
    have tX : tsX Q 0 = tsS (tsX M 0) r c b := by rw [hQ2, tsX_putK hS0, ht1]
    have tR : tsZ (rM_set Q r c b 39) = tsS (tsX M 0) r c b := by
      rw [eM, f39]
      have g := tsZ_bec (M := lsR (recR Q) (recR Q 39 0 * recR Q 39 1)) (r := r) (c := c) (b := b) (by rw [l9]; exact SR_Z h) (by rw [l9]; exact ⟨hb.1, hb.2.1⟩) (by rw [l9]; exact hb.2.2)
      rw [l9] at g
      rw [g, tsB_S (SR_O h) hin, SR_t h]
    have hz : zRf (rM_set Q r c b 39) := by
      rw [eM, f39]
      exact zRf_bec (by rw [l9]; exact SR_Z h) (by omega)
    refine ⟨hg, ?_, SR_rec h (fun k _ a d _ _ _ _ _ _ => by rw [hQ2]; exact putK_off a d) (by rw [hQ2]; exact zSk_putK hS0) (by rw [hQ2]; exact zSk_congr (putK_off (by decide) (by decide)) (putK_off (by decide) (by decide)) (putK_off (by decide) (by decide)) hS1) (fun k _ a d _ _ _ _ _ => by rw [eM]; exact (becR_off a).trans (lsR_off d)) (fun z _ => by rw [eM, show becR (lsR (recR Q) (recR Q 39 0 * recR Q 39 1)) (Q 39 1 * r + c) b 38 = recR Q 38 from (becR_off (by decide)).trans (lsR_off (by decide))]) hz (by rw [tR]; exact TOk_S (TOk_t h)) (tX.trans tR.symm)⟩
    have eR : rR_set Q r c b = rsC (rM_set Q r c b) := by
      rw [eM]
      unfold rR_set
      rw [if_pos (by rw [f39]; exact hin)]
    rw [eR, rsC_eq (t := tsX M 0) tR (by unfold tsS; split <;> rfl) (by unfold tsS; split <;> rfl) hz (fun k a d => ?_), rsS_S (TOk_t h) hi]
    · unfold xR_set
      rw [if_pos hi]
    · rw [eM]
      show becR (lsR (recR Q) (recR Q 39 0 * recR Q 39 1)) (Q 39 1 * r + c) b 45 k = _
      rw [becR_off (by decide), lsR_at ⟨a, by rw [e39]; rw [SR_t h] at d; exact d⟩, e39, SR_t h]
      rfl
  · have hin : ¬ inT (tsZ (M 39)) r c = true := by rw [← SR_t h]; exact hi
    have hQ2 : xM_set M r c b = M := by unfold xM_set; rw [if_neg hi]
    rw [hQ2]
    refine ⟨h.2.1, ?_, ?_⟩
    · unfold rR_set xR_set
      rw [if_neg hi, if_neg hin]
    · unfold rM_set
      rw [if_neg hin]
      exact h
theorem zop_pin {M : Mem} (h : SR M) (r c s : Int) : zgR (xM_pin M r c s) ∧ rR_pin (xM_pin M r c s) r c s = xR_pin M r c s ∧ SR (rM_pin (xM_pin M r c s) r c s) := by
  obtain ⟨hI1, ht1, h0, hS0, hS1, hhi⟩ := recF h
  have hla : inT (tsZ (M 39)) r c = true → laT (tsX M 0) r c = decide (M 39 (3 + (M 39 1 * r + c)) = 1) := fun hin => by
    have hb := hin
    rw [inT_Z] at hb
    rw [SR_t h, laT_Z, if_pos (of_decide_eq_true hb)]
  by_cases hc : (inT (tsX M 0) r c = true ∧ 0 ≤ s ∧ s < 47) ∧ laT (tsX M 0) r c = true
  · obtain ⟨⟨hi, hs⟩, hl⟩ := hc
    have e : ∀ k : Nat, 38 ≤ k → xM_pin M r c s k = M k := fun k hk => by
      unfold xM_pin
      rw [if_pos ⟨⟨hi, hs⟩, hl⟩]
      exact (putP_off (by omega)).trans (hhi k hk)
    have hg := zgR_hi h.2.1 e
    have e39 := recR39 e
    have f39 := e 39 (by decide)
    have hQ2 : xM_pin M r c s = putP (recM M) 0 r c s := by unfold xM_pin; rw [if_pos ⟨⟨hi, hs⟩, hl⟩]
    generalize xM_pin M r c s = Q at e hg e39 f39 hQ2 ⊢
    have hin : inT (tsZ (M 39)) r c = true := by rw [← SR_t h]; exact hi
    have hb := hin
    rw [inT_Z] at hb
    have hb := of_decide_eq_true hb
    have hk := inT_at hin
    have hw := zhw (SR_Z h).1 (SR_Z h).2.1 (SR_Z h).2.2.1 (SR_Z h).2.2.2.1
    have hl9 := (hla hin).symm.trans hl
    have cc : (inT (tsZ (Q 39)) r c = true ∧ 0 ≤ s ∧ s ≤ 46) ∧ decide (Q 39 (3 + (Q 39 1 * r + c)) = 1) = true := by
      rw [f39]
      exact ⟨⟨hin, by omega⟩, hl9⟩
    have eM : rM_pin Q r c s = pinR (recR Q) (Q 39 1 * r + c) s := by
      unfold rM_pin
      rw [if_pos cc]
    have tX : tsX Q 0 = tsP (tsX M 0) r c s := by rw [hQ2, tsX_putP hS0, ht1]
    have tR : tsZ (rM_pin Q r c s 39) = tsP (tsX M 0) r c s := by
      rw [eM, f39]
      have g := tsZ_pin (M := recR Q) (r := r) (c := c) (s := s) (by rw [e39]; exact SR_Z h) (by rw [e39]; exact ⟨hb.1, hb.2.1⟩) (by rw [e39]; exact hb.2.2)
      rw [e39, if_neg (by omega)] at g
      rw [g, SR_t h]
    have hz : zRf (rM_pin Q r c s 39) := by
      rw [eM, f39]
      exact zRf_pin (by rw [e39]; exact SR_Z h) (by omega) (Or.inr hs)
    refine ⟨hg, ?_, SR_rec h (fun k _ _ d _ _ _ _ _ _ => by rw [hQ2]; exact putP_off d) (by rw [hQ2]; exact zSk_putP (by omega) hS0) (by rw [hQ2]; exact zSk_congr (putP_off (by decide)) (putP_off (by decide)) (putP_off (by decide)) hS1) (fun k _ a _ _ _ _ _ _ => by rw [eM]; exact zup_ne a) (fun z _ => by rw [eM]; exact congrFun (zup_ne (by decide)) z) hz (by rw [tR]; exact TOk_P (TOk_t h) (Or.inr ⟨hs.1, hs.2, hl⟩)) (tX.trans tR.symm)⟩
    have eR : rR_pin Q r c s = faT (tsZ (rM_pin Q r c s 39)) r c := by
      rw [eM]
      unfold rR_pin
      rw [if_pos cc.1, if_pos cc.2]
    rw [eR, tR]
    unfold xR_pin
    rw [if_pos ⟨hi, hs⟩, if_pos hl, tsX_putP hS0, ht1]
  · have hQ2 : xM_pin M r c s = M := by unfold xM_pin; rw [if_neg hc]
    rw [hQ2]
    have hc2 : ¬ ((inT (tsZ (M 39)) r c = true ∧ 0 ≤ s ∧ s ≤ 46) ∧ decide (M 39 (3 + (M 39 1 * r + c)) = 1) = true) := fun z => hc ⟨⟨by rw [SR_t h]; exact z.1.1, by omega⟩, (hla z.1.1).trans z.2⟩
    refine ⟨h.2.1, ?_, ?_⟩
    · unfold rR_pin xR_pin
      by_cases q : inT (tsX M 0) r c = true ∧ 0 ≤ s ∧ s < 47
      · have q2 : inT (tsZ (M 39)) r c = true ∧ 0 ≤ s ∧ s ≤ 46 := ⟨by rw [← SR_t h]; exact q.1, by omega⟩
        rw [if_pos q, if_pos q2, if_neg (fun z => hc2 ⟨q2, z⟩), if_neg (fun z => hc ⟨q, z⟩)]
      · rw [if_neg q, if_neg (fun z => q ⟨by rw [SR_t h]; exact z.1, by omega⟩)]
    · unfold rM_pin
      rw [if_neg hc2]
      exact h
theorem zop_unpin {M : Mem} (h : SR M) (r c : Int) : zgR (xM_unpin M r c) ∧ rR_unpin (xM_unpin M r c) r c = xR_unpin M r c ∧ SR (rM_unpin (xM_unpin M r c) r c) := by
  obtain ⟨hI1, ht1, h0, hS0, hS1, hhi⟩ := recF h
  have hpi : inT (tsZ (M 39)) r c = true → piT (tsX M 0) r c = (if M 39 (147 + (M 39 1 * r + c)) = -6 then -1 else M 39 (147 + (M 39 1 * r + c))) := fun hin => by
    have hb := hin
    rw [inT_Z] at hb
    rw [SR_t h, piT_Z, if_pos (of_decide_eq_true hb)]
  have hpb : inT (tsZ (M 39)) r c = true → (M 39 (147 + (M 39 1 * r + c)) = -6 ∨ (0 ≤ M 39 (147 + (M 39 1 * r + c)) ∧ M 39 (147 + (M 39 1 * r + c)) < 47)) := fun hin => by
    have hk := inT_at hin
    have hw := zhw (SR_Z h).1 (SR_Z h).2.1 (SR_Z h).2.2.1 (SR_Z h).2.2.2.1
    exact (SR_Z h).2.2.2.2.2.2 _ hk.1 (by omega)
  by_cases hc : inT (tsX M 0) r c = true ∧ piT (tsX M 0) r c ≠ -1
  · obtain ⟨hi, hp⟩ := hc
    have e : ∀ k : Nat, 38 ≤ k → xM_unpin M r c k = M k := fun k hk => by
      unfold xM_unpin
      rw [if_pos ⟨hi, hp⟩]
      exact (putP_off (by omega)).trans (hhi k hk)
    have hg := zgR_hi h.2.1 e
    have e39 := recR39 e
    have f39 := e 39 (by decide)
    have hQ2 : xM_unpin M r c = putP (recM M) 0 r c (-1) := by unfold xM_unpin; rw [if_pos ⟨hi, hp⟩]
    generalize xM_unpin M r c = Q at e hg e39 f39 hQ2 ⊢
    have hin : inT (tsZ (M 39)) r c = true := by rw [← SR_t h]; exact hi
    have hb := hin
    rw [inT_Z] at hb
    have hb := of_decide_eq_true hb
    have hk := inT_at hin
    have hw := zhw (SR_Z h).1 (SR_Z h).2.1 (SR_Z h).2.2.1 (SR_Z h).2.2.2.1
    have hp2 : M 39 (147 + (M 39 1 * r + c)) ≠ -6 := fun z => by
      have := hpi hin
      rw [if_pos z] at this
      exact hp this
    have cc : inT (tsZ (Q 39)) r c = true ∧ Q 39 (147 + (Q 39 1 * r + c)) ≠ -6 := by
      rw [f39]
      exact ⟨hin, hp2⟩
    have eM : rM_unpin Q r c = pinR (recR Q) (Q 39 1 * r + c) (-6) := by
      unfold rM_unpin
      rw [if_pos cc]
    have tX : tsX Q 0 = tsP (tsX M 0) r c (-1) := by rw [hQ2, tsX_putP hS0, ht1]
    have tR : tsZ (rM_unpin Q r c 39) = tsP (tsX M 0) r c (-1) := by
      rw [eM, f39]
      have g := tsZ_pin (M := recR Q) (r := r) (c := c) (s := -6) (by rw [e39]; exact SR_Z h) (by rw [e39]; exact ⟨hb.1, hb.2.1⟩) (by rw [e39]; exact hb.2.2)
      rw [e39, if_pos rfl] at g
      rw [g, SR_t h]
    have hz : zRf (rM_unpin Q r c 39) := by
      rw [eM, f39]
      exact zRf_pin (by rw [e39]; exact SR_Z h) (by omega) (Or.inl rfl)
    refine ⟨hg, ?_, SR_rec h (fun k _ _ d _ _ _ _ _ _ => by rw [hQ2]; exact putP_off d) (by rw [hQ2]; exact zSk_putP (by omega) hS0) (by rw [hQ2]; exact zSk_congr (putP_off (by decide)) (putP_off (by decide)) (putP_off (by decide)) hS1) (fun k _ a _ _ _ _ _ _ => by rw [eM]; exact zup_ne a) (fun z _ => by rw [eM]; exact congrFun (zup_ne (by decide)) z) hz (by rw [tR]; exact TOk_P (TOk_t h) (Or.inl rfl)) (tX.trans tR.symm)⟩
    have eR : rR_unpin Q r c = M 39 (147 + (M 39 1 * r + c)) := by
      unfold rR_unpin
      rw [if_pos cc.1, if_neg cc.2, f39]
    have hh := hpi hin
    rw [if_neg hp2] at hh
    rw [eR, ← hh]
    unfold xR_unpin
    rw [if_pos hi, if_pos hp]
  · have hQ2 : xM_unpin M r c = M := by unfold xM_unpin; rw [if_neg hc]
    rw [hQ2]
    have hc2 : ¬ (inT (tsZ (M 39)) r c = true ∧ M 39 (147 + (M 39 1 * r + c)) ≠ -6) := fun z => hc ⟨by rw [SR_t h]; exact z.1, by
      have h1 := hpi z.1
      have h2 := hpb z.1
      rw [if_neg z.2] at h1
      rw [h1]
      have := z.2
      omega⟩
    refine ⟨h.2.1, ?_, ?_⟩
    · unfold rR_unpin xR_unpin
      by_cases q : inT (tsX M 0) r c = true
      · have q2 : inT (tsZ (M 39)) r c = true := by rw [← SR_t h]; exact q
        rw [if_pos q, if_pos q2, if_neg (fun z => hc ⟨q, z⟩), if_pos (Classical.not_not.mp (fun z => hc2 ⟨q2, z⟩))]
      · rw [if_neg q, if_neg (fun z => q (by rw [SR_t h]; exact z))]
    · unfold rM_unpin
      rw [if_neg hc2]
      exact h
