/-! ===== read: both draw the same map ===== -/
def grX (M N : Mem) (s : zTx) : Prop := (∀ r c : Int, 0 ≤ r → 0 ≤ c → ((r < s.1 ∧ c < s.2.2.1) ∨ (r = s.1 ∧ c < s.2.1)) → M 17 (r * 12 + c) = N 52 (12 * r + c)) ∧ ∀ z : Int, 0 ≤ z → z < 144 → M 26 z = -1
theorem run1 {M : Mem} {r c : Int} {b : Bool} (hS : zSk M 8) (h0 : M 8 0 = 12) (h1 : M 8 1 = 12) (hr : 0 ≤ r ∧ r < 12) (hc : 0 ≤ c ∧ c < 12) (h26 : ∀ z : Int, 0 ≤ z → z < 144 → M 26 z = -1) : (∀ z : Int, putK M 8 r c b 17 z = if z = r * 12 + c then zbz b else M 17 z) ∧ ∀ z : Int, 0 ≤ z → z < 144 → putK M 8 r c b 26 z = -1 := by
  have hin : inT (tsX M 8) r c = true := by rw [inT_X, h0, h1]; exact decide_eq_true ⟨hr.1, hr.2, hc.1, hc.2⟩
  have hla : laT (tsX M 8) r c = decide (M 17 (r * 12 + c) = 1) := by rw [laT_X, h0, h1, if_pos ⟨hr.1, hr.2, hc.1, hc.2⟩]
  have hv := hS.2.2.2.2.2.1 (r * 12 + c) (by omega) (by omega)
  unfold putK
  by_cases q : inT (tsX M 8) r c = true ∧ laT (tsX M 8) r c ≠ b
  · rw [if_pos q]
    refine ⟨fun z => ?_, fun z a d => ?_⟩
    · rw [zup_ne (show (17 : Nat) ≠ 8 + 18 by decide)]
      by_cases e : z = r * 12 + c
      · rw [if_pos e, e]; exact zup_at _ _ _ _
      · rw [if_neg e]; exact zup_off e
    · by_cases e : z = r * 12 + c
      · rw [e]; exact zup_at _ _ _ _
      · exact (zup_off e).trans ((congrFun (zup_ne (by decide)) z).trans (h26 z a d))
  · rw [if_neg q]
    refine ⟨fun z => ?_, h26⟩
    by_cases e : z = r * 12 + c
    · rw [if_pos e, e]
      have hl : laT (tsX M 8) r c = b := Classical.not_not.mp (fun w => q ⟨hin, w⟩)
      rw [hla] at hl
      rw [← hl]
      exact zbz_of hv
    · rw [if_neg e]
theorem runs_X {M : Mem} {b : Bool} (hS : zSk M 8) (h0 : M 8 0 = 12) (h1 : M 8 1 = 12) (hr : 0 ≤ M 36 3 ∧ M 36 3 < 12) (hc : 0 ≤ M 36 4) (h26 : ∀ z : Int, 0 ≤ z → z < 144 → M 26 z = -1) : ∀ n : Nat, M 36 4 + n ≤ 12 → (∀ z : Int, runX M b n 17 z = if M 36 3 * 12 + M 36 4 ≤ z ∧ z < M 36 3 * 12 + M 36 4 + n then zbz b else M 17 z) ∧ ∀ z : Int, 0 ≤ z → z < 144 → runX M b n 26 z = -1
  | 0, _ => ⟨fun z => by rw [if_neg (by omega)]; rfl, h26⟩
  | n + 1, hn => by
    have ih := runs_X (b := b) hS h0 h1 hr hc h26 n (by omega)
    have p := runX_P (b := b) hS n
    have e8 : runX M b n 8 = M 8 := p.2 8 (by decide) (by decide)
    have g := run1 (M := runX M b n) (r := M 36 3) (c := M 36 4 + n) (b := b) p.1 (by rw [e8]; exact h0) (by rw [e8]; exact h1) hr (by omega) ih.2
    refine ⟨fun z => ?_, g.2⟩
    have := g.1 z
    show putK (runX M b n) 8 (M 36 3) (M 36 4 + n) b 17 z = _
    rw [this, ih.1]
    by_cases e : z = M 36 3 * 12 + (M 36 4 + n)
    · rw [if_pos e, if_pos (by omega)]
    · rw [if_neg e]
      by_cases w : M 36 3 * 12 + M 36 4 ≤ z ∧ z < M 36 3 * 12 + M 36 4 + n
      · rw [if_pos w, if_pos (by omega)]
      · rw [if_neg w, if_neg (by omega)]
theorem grX_S {M0 M N : Mem} {x : Int} {s : zTx} (hp : pxI M0 M) (hs : zmX M = s) (hs2 : zmR N = s) (hV : zxV s) (hb : zxB x s = true) (h : grX M N s) : grX (zxX x M) (zxR x N) (zxS x s) := by
  obtain ⟨g1, g2⟩ := h
  obtain ⟨v1, v2, v3, v4, v5, v6, v7, v8⟩ := hV
  have e1 : M 36 3 = s.1 := congrArg Prod.fst hs
  have e2 : M 36 4 = s.2.1 := congrArg (fun q : zTx => q.2.1) hs
  have f1 : N 38 18 = s.1 := congrArg Prod.fst hs2
  have f2 : N 38 20 = s.2.1 := congrArg (fun q : zTx => q.2.1) hs2
  unfold zxX zxR zxS zxB at *
  by_cases c1 : x = 47
  · rw [if_pos c1] at hb ⊢
    rw [if_pos c1, if_pos c1]
    have k17 : rwX M 17 = M 17 := by unfold rwX; rw [zup_ne (by decide), zup_ne (by decide), zup_ne (by decide)]
    have k26 : rwX M 26 = M 26 := by unfold rwX; rw [zup_ne (by decide), zup_ne (by decide), zup_ne (by decide)]
    have k52 : rwR N 52 = N 52 := rwR_off (by decide)
    unfold zxRB zxE at hb
    have hb2 := Bool.and_eq_true_iff.mp hb
    have hb3 := of_decide_eq_true (Bool.and_eq_true_iff.mp hb2.1).2
    refine ⟨fun r c a d w => ?_, fun z a d => by rw [k26]; exact g2 z a d⟩
    rw [k17, k52]
    have w' : (r < s.1 + 1 ∧ c < s.2.1) ∨ (r = s.1 + 1 ∧ c < 0) := w
    exact g1 r c a d (by omega)
  · rw [if_neg c1] at hb ⊢
    rw [if_neg c1, if_neg c1]
    by_cases c2 : x = 46 ∨ x = 35
    · rw [if_pos c2] at hb ⊢
      rw [if_pos c2, if_pos c2]
      unfold zxRR at hb
      have hb2 := of_decide_eq_true hb
      have hN := zxN_bd (s := s) ⟨v1, v2, v3, v4, v5, v6, v7, v8⟩
      have hL : zxL s = (if s.1 = 0 then 12 else s.2.2.1) - s.2.1 := rfl
      have hfit : s.2.1 + zxN s ≤ 12 := by
        have := hb2.2
        rw [hL] at this
        split at this <;> omega
      obtain ⟨q1, q2, q3, -⟩ := hp
      have hr := runs_X (M := M) (b := decide (x = 35)) q1 q2 q3 (by omega) (by omega) g2 (zxN s).toNat (by omega)
      have eN : zxN (zmX M) = zxN s := by rw [hs]
      have eN2 : zxN (zmR N) = zxN s := by rw [hs2]
      have k17 : ∀ z : Int, rnX M (decide (x = 35)) 17 z = if s.1 * 12 + s.2.1 ≤ z ∧ z < s.1 * 12 + s.2.1 + zxN s then zbz (decide (x = 35)) else M 17 z := fun z => by
        unfold rnX
        rw [zup_ne (by decide), zup_ne (by decide), eN, hr.1, e1, e2, show (((zxN s).toNat : Nat) : Int) = zxN s by omega]
      have k26 : ∀ z : Int, 0 ≤ z → z < 144 → rnX M (decide (x = 35)) 26 z = -1 := fun z a d => by
        unfold rnX
        rw [zup_ne (by decide), zup_ne (by decide), eN]
        exact hr.2 z a d
      have k52 : ∀ z : Int, rnR N (decide (x = 35)) 52 z = if 12 * s.1 + s.2.1 ≤ z ∧ z < 12 * s.1 + s.2.1 + zxN s then zbz (decide (x = 35)) else N 52 z := fun z => by
        unfold rnR
        rw [zup_ne (by decide), eN2]
        simp only [flR, f1, f2]
        by_cases w : 12 * s.1 + s.2.1 ≤ z ∧ z < 12 * s.1 + s.2.1 + zxN s
        · rw [if_pos ⟨trivial, w⟩, if_pos w]
        · rw [if_neg (fun y => w y.2), if_neg w]
          rfl
      refine ⟨fun r c a d w => ?_, k26⟩
      have w' : (r < s.1 ∧ c < s.2.2.1) ∨ (r = s.1 ∧ c < s.2.1 + zxN s) := w
      rw [k17, k52]
      by_cases y : s.1 * 12 + s.2.1 ≤ r * 12 + c ∧ r * 12 + c < s.1 * 12 + s.2.1 + zxN s
      · rw [if_pos y, if_pos (by omega)]
      · rw [if_neg y, if_neg (by omega)]
        exact g1 r c a d (by omega)
    · rw [if_neg c2] at hb ⊢
      rw [if_neg c2, if_neg c2]
      have k17 : dgX M (x - 48) 17 = M 17 := zup_ne (by decide)
      have k26 : dgX M (x - 48) 26 = M 26 := zup_ne (by decide)
      have k52 : dgR N (x - 48) 52 = N 52 := zup_ne (by decide)
      refine ⟨fun r c a d w => ?_, fun z a d => by rw [k26]; exact g2 z a d⟩
      rw [k17, k52]
      exact g1 r c a d w
theorem grX_n {M N : Mem} (ho : M 8 2 = 0 ∨ M 8 2 = 1) : ∀ {n : Nat}, (∀ j : Nat, j < n → M 37 j = N 42 j) → (∀ j : Nat, j < n → zxB (M 37 j) (zsq (M 37) j) = true) → grX (prX M n) (prR N n) (zsq (M 37) n)
  | 0, _, _ => by
    refine ⟨fun r c a d w => ?_, fun z a d => ?_⟩
    · have w' : (r < 0 ∧ c < 0) ∨ (r = 0 ∧ c < 0) := w
      omega
    · show pr0 M 26 z = -1
      unfold pr0
      rw [zup_ne (by decide), zup_ne (by decide), zup_ne (by decide), zup_ne (by decide)]
      simp only [watM]
      rw [if_neg (by omega), if_neg (by omega), if_neg (by omega), if_pos ⟨trivial, a, d⟩]
  | n + 1, h, hb => by
    have ih := grX_n (N := N) ho (fun j hj => h j (Nat.lt_succ_of_lt hj)) (fun j hj => hb j (Nat.lt_succ_of_lt hj))
    have p := prX_P ho (n := n) (fun j hj => hb j (Nat.lt_succ_of_lt hj))
    have cg : ∀ m : Nat, m ≤ n → zsq (N 42) m = zsq (M 37) m := fun m hm => zsq_congr (fun j hj => (h j (by omega)).symm)
    have q := prR_P (M := N) (n := n) (fun j hj => by rw [← h j (Nat.lt_succ_of_lt hj), cg j (by omega)]; exact hb j (Nat.lt_succ_of_lt hj))
    have g := grX_S (x := M 37 n) p.1 p.2 (q.2.trans (cg n (Nat.le_refl n))) (zsqV (fun j hj => hb j (Nat.lt_succ_of_lt hj))) (hb n (Nat.lt_succ_self n)) ih
    show grX (zxX (M 37 n) (prX M n)) (zxR (N 42 n) (prR N n)) (zxS (M 37 n) (zsq (M 37) n))
    rw [← h n (Nat.lt_succ_self n)]
    exact g
/-- the map that read leaves -/
theorem read_ts {M N : Mem} (hX : zgX M) (hR : zgR N) (hl : zRel M N) (he : epT (M 37) (M 36 1).toNat = -6) (he2 : epT (N 42) (N 38 6).toNat = -6) : tsX (rdX M) 0 = tsZ (rdM N 39) ∧ TOk (tsX (rdX M) 0) := by
  have ho := (hX.1.2.1 8 (by decide)).2.2.2.2.1
  obtain ⟨l1, l2, l3, l4, l5, l6, l7⟩ := id hl
  have hcd : ∀ j : Nat, j < (M 36 1).toNat → M 37 j = N 42 j := fun j hj => l7 j (by omega) (by omega)
  have hn : (N 38 6).toNat = (M 36 1).toNat := by rw [l6]
  have hgood := ep_good he
  have hE := zsq_E he
  have gr := grX_n (N := N) ho hcd hgood.1
  have pP := prX_P ho hgood.1
  have pa : paX M = zup (zup (prX M (M 36 1).toNat) 8 0 (prX M (M 36 1).toNat 36 3 + 1)) 8 1 (prX M (M 36 1).toNat 36 4) := by unfold paX; rw [if_pos he]
  have s1 : prX M (M 36 1).toNat 36 3 = (zsq (M 37) (M 36 1).toNat).1 := congrArg Prod.fst pP.2
  have s2 : prX M (M 36 1).toNat 36 4 = (zsq (M 37) (M 36 1).toNat).2.1 := congrArg (fun q : zTx => q.2.1) pP.2
  have eN : erM N = prR N (M 36 1).toNat := by
    unfold erM epN
    rw [if_pos he2, hn]
  have q1 := erM_q he2
  have cg : zsq (N 42) (N 38 6).toNat = zsq (M 37) (M 36 1).toNat := by rw [hn]; exact zsq_congr (fun j hj => (hcd j hj).symm)
  rw [cg] at q1
  have r1 : erM N 38 18 = (zsq (M 37) (M 36 1).toNat).1 := congrArg Prod.fst q1
  have r2 : erM N 38 20 = (zsq (M 37) (M 36 1).toNat).2.1 := congrArg (fun q : zTx => q.2.1) q1
  rw [← eN] at gr
  have hzE := hgood.2.2
  unfold zxE at hzE
  have hzE := of_decide_eq_true hzE
  generalize zsq (M 37) (M 36 1).toNat = s at gr s1 s2 r1 r2 hE hzE
  have a0 : paX M 8 0 = s.1 + 1 := by rw [pa, zup_off (by decide), zup_at, s1]
  have a1 : paX M 8 1 = s.2.1 := by rw [pa, zup_at, s2]
  have a17 : paX M 17 = prX M (M 36 1).toNat 17 := by rw [pa, zup_ne (by decide), zup_ne (by decide)]
  have a26 : paX M 26 = prX M (M 36 1).toNat 26 := by rw [pa, zup_ne (by decide), zup_ne (by decide)]
  have hP := paX_XI hX.1
  have hP8 := hP.2.1 8 (by decide)
  have hRP := recM_XI hP
  have hHP := hP.2.2
  have tA : tsX (rdX M) 0 = tsO (tsX (paX M) 8) (decide (recM (paX M) 0 2 = 1)) := by
    unfold rdX
    rw [show tsX (zup (zup (copM (recM (paX M)) 0 8 144) 0 2 (zbz (decide (recM (paX M) 0 2 = 1)))) 36 1 0) 0 = tsX (zup (copM (recM (paX M)) 0 8 144) 0 2 (zbz (decide (recM (paX M) 0 2 = 1)))) 0 from tsX_congr (zup_ne (by decide)) (zup_ne (by decide)) (zup_ne (by decide)), tsX_Out, tsX_copM (hRP.2.1 8 (by decide))]
    rw [show tsX (recM (paX M)) 8 = tsX (paX M) 8 from tsX_congr (recM_off hHP (by decide) (by decide) (by omega)) (recM_off hHP (by decide) (by decide) (by omega)) (recM_off hHP (by decide) (by decide) (by omega))]
  have hout : decide (recM (paX M) 0 2 = 1) = decide (N 39 2 = 1) := by
    rw [recM_off hHP (by decide) (by decide) (by omega), (paX_P (M := M) ho).2.2.1 0 (by decide) (by decide) (by decide) (by decide)]
    exact congrArg tO l1
  have d0 : rdM N 39 0 = s.1 + 1 := by
    unfold rdM
    rw [zup_ne (by decide), rcR_lo (by decide), rdB_0, r1]
  have d1 : rdM N 39 1 = s.2.1 := by
    unfold rdM
    rw [zup_ne (by decide), rcR_lo (by decide), rdB_1, r2]
  have d2 : rdM N 39 2 = N 39 2 := by
    unfold rdM
    rw [zup_ne (by decide), rcR_lo (by decide), rdB_2]
  have hw := zhw (h := s.1 + 1) (w := s.2.1) (by omega) (by omega) hE.2.2.1 hE.2.2.2
  have dt : ∀ r c : Int, 0 ≤ r → r < s.1 + 1 → 0 ≤ c → c < s.2.1 → rdM N 39 (3 + (s.2.1 * r + c)) = erM N 52 (12 * r + c) ∧ rdM N 39 (147 + (s.2.1 * r + c)) = -6 := fun r c x1 x2 x3 x4 => by
    have ix := zix (h := s.1 + 1) (w := s.2.1) ⟨x1, x2⟩ ⟨x3, x4⟩
    constructor
    · unfold rdM
      rw [zup_ne (by decide), rcR_t, r1, r2, if_pos ⟨ix.1, ix.2.1⟩, ix.2.2.1, ix.2.2.2]
    · unfold rdM
      rw [zup_ne (by decide)]
      have hb := (rdB_t (M := N) (i := s.2.1 * r + c) ⟨ix.1, by omega⟩).2
      simp only [rcR, r1, r2]
      rw [if_neg (by omega)]
      exact hb
  have tE : tsX (rdX M) 0 = tsZ (rdM N 39) := by
    rw [tA, hout]
    refine ts_ext (a0.trans d0.symm) (a1.trans d1.symm) (by show decide _ = decide _; rw [d2]) (fun r c => ?_) (fun r c => ?_)
    · show (decide (0 ≤ r ∧ r < paX M 8 0 ∧ 0 ≤ c ∧ c < paX M 8 1) && decide (paX M 17 (r * 12 + c) = 1)) = (decide (0 ≤ r ∧ r < rdM N 39 0 ∧ 0 ≤ c ∧ c < rdM N 39 1) && decide (rdM N 39 (3 + (rdM N 39 1 * r + c)) = 1))
      rw [a0, a1, d0, d1]
      by_cases hi : 0 ≤ r ∧ r < s.1 + 1 ∧ 0 ≤ c ∧ c < s.2.1
      · rw [(dt r c hi.1 hi.2.1 hi.2.2.1 hi.2.2.2).1, a17, gr.1 r c hi.1 hi.2.2.1 (by omega)]
      · rw [decide_eq_false hi, Bool.false_and, Bool.false_and]
    · show (if 0 ≤ r ∧ r < paX M 8 0 ∧ 0 ≤ c ∧ c < paX M 8 1 then paX M 26 (r * 12 + c) else -1) = (if 0 ≤ r ∧ r < rdM N 39 0 ∧ 0 ≤ c ∧ c < rdM N 39 1 then (if rdM N 39 (147 + (rdM N 39 1 * r + c)) = -6 then -1 else rdM N 39 (147 + (rdM N 39 1 * r + c))) else -1)
      rw [a0, a1, d0, d1]
      by_cases hi : 0 ≤ r ∧ r < s.1 + 1 ∧ 0 ≤ c ∧ c < s.2.1
      · rw [if_pos hi, if_pos hi, if_pos (dt r c hi.1 hi.2.1 hi.2.2.1 hi.2.2.2).2, a26]
        exact gr.2 _ (by omega) (by omega)
      · rw [if_neg hi, if_neg hi]
  refine ⟨tE, ?_⟩
  have b0 : tH (tsX (rdX M) 0) = s.1 + 1 := by rw [tA]; exact a0
  have b1 : tW (tsX (rdX M) 0) = s.2.1 := by rw [tA]; exact a1
  refine ⟨by rw [b0]; omega, by rw [b0]; omega, by rw [b1]; omega, by rw [b1]; omega, fun r c => Or.inl ?_⟩
  rw [tA]
  show (if inT (tsX (paX M) 8) r c then (if 0 ≤ r ∧ r < paX M 8 0 ∧ 0 ≤ c ∧ c < paX M 8 1 then paX M 26 (r * 12 + c) else -1) else -1) = -1
  rw [a0, a1, a26]
  by_cases hi : 0 ≤ r ∧ r < s.1 + 1 ∧ 0 ≤ c ∧ c < s.2.1
  · rw [if_pos hi, gr.2 _ (by omega) (by omega)]
    split <;> rfl
  · rw [if_neg hi]
    split <;> rfl
theorem zop_read {M : Mem} (h : SR M) : zgR (xM_read M) ∧ rR_read (xM_read M) = xR_read M ∧ SR (rM_read (xM_read M)) := by
  have hhi := paX_hi h.1
  have ht := SR_txt h
  have hep := (epT_congr (f := M 37) (g := M 42) ht.2).1
  by_cases he : epT (M 37) (M 36 1).toNat = -6
  · have hP := paX_XI h.1.1
    have hRP := recM_XI hP
    have hHP := hP.2.2
    have hQ : xM_read M = rdX M := by unfold xM_read; rw [if_pos he]
    have e : ∀ k : Nat, 38 ≤ k → xM_read M k = M k := fun k hk => by
      rw [hQ]
      unfold rdX
      rw [zup_ne (by omega), zup_ne (by omega), copM_offf (by omega) (by omega) (by omega), recM_off hHP (by omega) (by omega) (by omega)]
      exact hhi k hk
    have hg := zgR_hi h.2.1 e
    have hlQ : zRel M (xM_read M) := Rel_R (eqR_hi e) h.2.2
    have q42 := e 42 (by decide)
    have q38 := e 38 (by decide)
    have he2 : epT (xM_read M 42) (xM_read M 38 6).toNat = -6 := by rw [q42, q38, ← ht.1, ← hep]; exact he
    have ts := read_ts h.1 hg hlQ he he2
    have hR : xR_read M = lnT (tsX (rdX M) 0) := by unfold xR_read; rw [if_pos he]
    generalize xM_read M = Q at hQ e hg hlQ he2 ts ⊢
    have eM : rM_read Q = rdM Q := by unfold rM_read; rw [if_pos he2]
    have eR : rR_read Q = lnT (tsZ (rdM Q 39)) := by unfold rR_read; rw [if_pos he2]
    refine ⟨hg, by rw [eR, hR, ts.1], ?_⟩
    rw [eM]
    have e52 := hg.2.2.2.2.2.2
    have pa := paX_g h.1 hlQ
    have q1 : eqR Q (erM Q) := prI_eq erM_P (fun w => erM_52 w)
    have q2 : eqR (erM Q) (rwR (erM Q)) := ⟨fun k a _ _ _ _ _ _ _ _ => rwR_off (by omega), fun z _ a => rwR_f (by omega), fun w => by rw [rwR_off (by decide)]; exact w⟩
    have qq := eqR_tr q1 q2
    have hN := GR_congr qq hg
    have hlN := Rel_R qq pa.2
    have s0 : zSk (zup (copM (recM (paX M)) 0 8 144) 0 2 (zbz (decide (recM (paX M) 0 2 = 1)))) 0 := zSk_o (zSk_copM (hRP.2.1 8 (by decide)))
    have s1 : zSk (zup (copM (recM (paX M)) 0 8 144) 0 2 (zbz (decide (recM (paX M) 0 2 = 1)))) 1 := zSk_congr ((zup_ne (by decide)).trans (copM_offf (by decide) (by decide) (by decide))) ((zup_ne (by decide)).trans (copM_offf (by decide) (by decide) (by decide))) ((zup_ne (by decide)).trans (copM_offf (by decide) (by decide) (by decide))) (hRP.2.1 1 (by decide))
    have d39 : rdM Q 39 = rcR (rdB Q) ((erM Q 38 18 + 1) * erM Q 38 20) 39 := zup_ne (by decide)
    have tA : tsX (rdX M) 0 = tsX (zup (copM (recM (paX M)) 0 8 144) 0 2 (zbz (decide (recM (paX M) 0 2 = 1)))) 0 := tsX_congr (zup_ne (by decide)) (zup_ne (by decide)) (zup_ne (by decide))
    have g := SR_rec2 (M := paX M) (N := rwR (erM Q)) (M1 := zup (copM (recM (paX M)) 0 8 144) 0 2 (zbz (decide (recM (paX M) 0 2 = 1)))) (M2 := rcR (rdB Q) ((erM Q 38 18 + 1) * erM Q 38 20)) pa.1 hN hlN (fun k a b c _ _ _ _ _ _ => (zup_ne a).trans (copM_offf a b c)) s0 s1 (fun k _ a _ _ _ _ _ _ => (rcR_off a).trans (rdB_o a)) (fun z _ => congrFun ((rcR_off (by decide)).trans (rdB_o (by decide))) z)
      (by rw [← d39]; exact zRf_rd hg.1 e52 he2) (by rw [← d39, ← ts.1]; exact ts.2) (by rw [← d39, ← ts.1, tA])
    have c1 := clear_X g.1 g.2.2
    have c2 := clear_R g.2.1
    have e3 : ∀ k : Nat, k < 38 → rdM Q k = Q k := fun k hk => by
      unfold rdM
      rw [zup_ne (by omega), rcR_off (by omega), rdB_o (by omega), recR_off (by omega) (by omega), rwR_off (by omega)]
      exact (erM_P (M := Q)).1 k (by omega) (by omega)
    have eX : rdX M = zup (zup (copM (recM (paX M)) 0 8 144) 0 2 (zbz (decide (recM (paX M) 0 2 = 1)))) 36 1 0 := rfl
    have eZ : rdM Q = zup (rcR (rdB Q) ((erM Q 38 18 + 1) * erM Q 38 20)) 38 6 0 := rfl
    rw [← eX, ← eZ, ← hQ] at c1
    rw [← eZ] at c2
    exact SR_of c1.1 c2 c1.2 e3
  · have hQ : xM_read M = paX M := by unfold xM_read; rw [if_neg he]
    have g := zop_errorPosition h
    rw [hQ]
    have he2 : ¬ epT (paX M 42) (paX M 38 6).toNat = -6 := by rw [hhi 42 (by decide), hhi 38 (by decide), ← ht.1, ← hep]; exact he
    refine ⟨g.1, ?_, ?_⟩
    · unfold rR_read xR_read
      rw [if_neg he, if_neg he2]
    · unfold rM_read
      rw [if_neg he2]
      exact g.2.2
