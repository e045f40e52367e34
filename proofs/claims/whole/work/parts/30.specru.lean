/-! ===== what the reference's changing calls do to the cells ===== -/
def becR (M : Mem) (k : Int) (b : Bool) : Mem := zup (zup M 39 (3 + k) (zbz b)) 39 (147 + k) (if b then M 39 (147 + k) else -6)
theorem becR_off {M : Mem} {k : Int} {b : Bool} {i : Nat} (h : i ≠ 39) : becR M k b i = M i := by
  unfold becR
  rw [zup_ne h, zup_ne h]
theorem becR_z {M : Mem} {k z : Int} {b : Bool} (h1 : z ≠ 3 + k) (h2 : z ≠ 147 + k) : becR M k b 39 z = M 39 z := by
  unfold becR
  rw [zup_off h2, zup_off h1]
theorem becR_t {M : Mem} {k : Int} {b : Bool} : becR M k b 39 (3 + k) = zbz b := by
  unfold becR
  rw [zup_off (by omega), zup_at]
theorem becR_p {M : Mem} {k : Int} {b : Bool} : becR M k b 39 (147 + k) = if b then M 39 (147 + k) else -6 := by
  unfold becR
  rw [zup_at]
theorem zRf_bec {M : Mem} {k : Int} {b : Bool} (hZ : zRf (M 39)) (hk : 0 ≤ k ∧ k < 144) : zRf (becR M k b 39) := by
  obtain ⟨h1, h2, h3, h4, h5, h6, h7⟩ := hZ
  refine ⟨by rw [becR_z (by omega) (by omega)]; exact h1, by rw [becR_z (by omega) (by omega)]; exact h2, by rw [becR_z (by omega) (by omega)]; exact h3, by rw [becR_z (by omega) (by omega)]; exact h4, by rw [becR_z (by omega) (by omega)]; exact h5, fun i h0 h8 => ?_, fun i h0 h8 => ?_⟩
  · by_cases e : i = k
    · subst e
      rw [becR_t]
      cases b
      · exact Or.inl rfl
      · exact Or.inr rfl
    · rw [becR_z (by omega) (by omega)]
      exact h6 i h0 h8
  · by_cases e : i = k
    · subst e
      rw [becR_p]
      cases b
      · exact Or.inl rfl
      · exact h7 i h0 h8
    · rw [becR_z (by omega) (by omega)]
      exact h7 i h0 h8
def lsR (M : Mem) (n : Int) : Mem := fun k z => if k = 45 ∧ 0 ≤ z ∧ z < n then saT (tsZ (M 39)) (z / M 39 1) (z % M 39 1) else M k z
theorem lsR_off {M : Mem} {n : Int} {i : Nat} (h : i ≠ 45) : lsR M n i = M i := by
  funext z
  simp [lsR, h]
theorem lsR_at {M : Mem} {n z : Int} (h : 0 ≤ z ∧ z < n) : lsR M n 45 z = saT (tsZ (M 39)) (z / M 39 1) (z % M 39 1) := by
  simp only [lsR]
  grind
theorem lsR_0 {M : Mem} : M = lsR M 0 := by
  funext k z
  simp only [lsR]
  grind
theorem lsR_s {M : Mem} (n : Nat) : zup (lsR M n) 45 n (saT (tsZ (M 39)) ((n : Int) / M 39 1) ((n : Int) % M 39 1)) = lsR M ((n + 1 : Nat) : Int) := by
  funext k z
  simp only [lsR, zup]
  grind
def rsC (M : Mem) : Int := zrep (fun (k : Nat) (n : Int) => if M 45 k ≠ -6 ∧ M 39 (3 + (k : Int)) = 1 ∧ saT (tsZ (M 39)) ((k : Int) / M 39 1) ((k : Int) % M 39 1) ≠ M 45 k then n + 1 else n) (M 39 0 * M 39 1).toNat 0
def RI (M : Mem) : Prop := TbR M ∧ zRf (M 39) ∧ TOk (tsZ (M 39)) ∧ HsR M
theorem recR_off {M : Mem} {k : Nat} (h1 : k ≠ 38) (h2 : k ≠ 40) : recR M k = M k := by
  unfold recR
  rw [zup_ne h1]
  funext z
  rw [mvR_off h2, recB_off h1 h2]
theorem recR_H {M : Mem} (h : HsR M) : HsR (recR M) := by
  have := recB_H h
  have e : recR M 38 2 = recB M 38 2 + 1 := zup_at _ _ _ _
  unfold HsR
  omega
theorem recR_RI {M : Mem} (h : RI M) : RI (recR M) := by
  obtain ⟨h1, h2, h3, h4⟩ := h
  refine ⟨⟨fun s a b => ?_, fun m a b => ?_⟩, ?_, ?_, recR_H h4⟩
  · rw [recR_off (by decide) (by decide)]; exact h1.1 s a b
  · rw [recR_off (by decide) (by decide)]; exact h1.2 m a b
  · rw [recR_off (by decide) (by decide)]; exact h2
  · rw [recR_off (by decide) (by decide)]; exact h3
theorem TbR_congr {M M' : Mem} (h1 : M' 43 = M 43) (h2 : M' 44 = M 44) (h : TbR M) : TbR M' := by
  unfold TbR at *
  rw [h1, h2]
  exact h
/-- the kind of one tile -/
def tsB (t : TS) (r c : Int) (b : Bool) : TS := (tH t, tW t, tO t, fun r' c' => if r' = r ∧ c' = c then b else t.2.2.2.1 r' c', fun r' c' => if r' = r ∧ c' = c then (if b then t.2.2.2.2 r c else -1) else t.2.2.2.2 r' c')
theorem zix_inj {w r c r' c' : Int} (hc : 0 ≤ c ∧ c < w) (hc' : 0 ≤ c' ∧ c' < w) (hr : 0 ≤ r) (hr' : 0 ≤ r') (e : w * r + c = w * r' + c') : r = r' ∧ c = c' := by
  have x := zix (h := r + 1) (w := w) (r := r) (c := c) ⟨hr, by omega⟩ hc
  have y := zix (h := r' + 1) (w := w) (r := r') (c := c') ⟨hr', by omega⟩ hc'
  rw [e] at x
  exact ⟨x.2.2.1.symm.trans y.2.2.1, x.2.2.2.symm.trans y.2.2.2⟩
theorem tsZ_p (f : Int → Int) (r c : Int) : (tsZ f).2.2.2.2 r c = if 0 ≤ r ∧ r < f 0 ∧ 0 ≤ c ∧ c < f 1 then (if f (147 + (f 1 * r + c)) = -6 then -1 else f (147 + (f 1 * r + c))) else -1 := rfl
theorem tsZ_bec {M : Mem} {r c : Int} {b : Bool} (hZ : zRf (M 39)) (hr : 0 ≤ r ∧ r < M 39 0) (hc : 0 ≤ c ∧ c < M 39 1) : tsZ (becR M (M 39 1 * r + c) b 39) = tsB (tsZ (M 39)) r c b := by
  obtain ⟨h1, h2, h3, h4, h5, h6, h7⟩ := hZ
  have hw := zhw h1 h2 h3 h4
  have x := zix hr hc
  have e0 : becR M (M 39 1 * r + c) b 39 0 = M 39 0 := becR_z (by omega) (by omega)
  have e1 : becR M (M 39 1 * r + c) b 39 1 = M 39 1 := becR_z (by omega) (by omega)
  have e2 : becR M (M 39 1 * r + c) b 39 2 = M 39 2 := becR_z (by omega) (by omega)
  refine ts_ext e0 e1 (by show decide _ = decide _; rw [e2]) (fun r' c' => ?_) (fun r' c' => ?_)
  · show (decide _ && decide _) = (if r' = r ∧ c' = c then b else (decide _ && decide _))
    rw [e0, e1]
    by_cases hi : 0 ≤ r' ∧ r' < M 39 0 ∧ 0 ≤ c' ∧ c' < M 39 1
    · have y := zix (h := M 39 0) (w := M 39 1) (r := r') (c := c') ⟨hi.1, hi.2.1⟩ hi.2.2
      rw [decide_eq_true hi, Bool.true_and, Bool.true_and]
      by_cases e : r' = r ∧ c' = c
      · rw [if_pos e, e.1, e.2, becR_t]
        cases b <;> rfl
      · have hne : M 39 1 * r' + c' ≠ M 39 1 * r + c := fun q => e (zix_inj hi.2.2 hc hi.1 hr.1 q)
        rw [if_neg e, becR_z (by omega) (by omega)]
    · rw [decide_eq_false hi, Bool.false_and, Bool.false_and, if_neg (by omega)]
  · show (tsZ (becR M (M 39 1 * r + c) b 39)).2.2.2.2 r' c' = if r' = r ∧ c' = c then (if b then (tsZ (M 39)).2.2.2.2 r c else -1) else (tsZ (M 39)).2.2.2.2 r' c'
    rw [tsZ_p, tsZ_p, tsZ_p, e0, e1]
    have hrc : 0 ≤ r ∧ r < M 39 0 ∧ 0 ≤ c ∧ c < M 39 1 := ⟨hr.1, hr.2, hc.1, hc.2⟩
    by_cases hi : 0 ≤ r' ∧ r' < M 39 0 ∧ 0 ≤ c' ∧ c' < M 39 1
    · have y := zix (h := M 39 0) (w := M 39 1) (r := r') (c := c') ⟨hi.1, hi.2.1⟩ hi.2.2
      by_cases e : r' = r ∧ c' = c
      · obtain ⟨rfl, rfl⟩ := e
        rw [if_pos hrc, becR_p, if_pos hrc]
        cases b <;> simp
      · have hne : M 39 1 * r' + c' ≠ M 39 1 * r + c := fun q => e (zix_inj hi.2.2 hc hi.1 hr.1 q)
        rw [if_pos hi, if_pos hi, if_neg e, becR_z (by omega) (by omega)]
    · have e : ¬ (r' = r ∧ c' = c) := fun q => hi (by rw [q.1, q.2]; exact hrc)
      rw [if_neg hi, if_neg hi, if_neg e]
theorem tsB_S {t : TS} {r c : Int} {b : Bool} (hO : TOk t) (hi : inT t r c = true) : tsB t r c b = tsS t r c b := by
  have hp := hO.2.2.2.2 r c
  have hl : laT t r c = t.2.2.2.1 r c := by unfold laT; rw [if_pos hi]
  have hq : piT t r c = t.2.2.2.2 r c := by unfold piT; rw [if_pos hi]
  rw [hl, hq] at hp
  unfold tsS
  rw [hl]
  by_cases h : t.2.2.2.1 r c = b
  · rw [if_neg (fun q => q.2 h)]
    refine ts_ext rfl rfl rfl (fun r' c' => ?_) (fun r' c' => ?_)
    · show (if _ then _ else _) = _
      by_cases e : r' = r ∧ c' = c
      · rw [if_pos e, e.1, e.2, h]
      · rw [if_neg e]
    · show (if _ then _ else _) = _
      by_cases e : r' = r ∧ c' = c
      · rw [if_pos e, e.1, e.2]
        cases b
        · rw [if_neg (by decide)]
          rcases hp with hp | hp
          · exact hp.symm
          · rw [h] at hp; exact absurd hp.2.2 (by decide)
        · rfl
      · rw [if_neg e]
  · rw [if_pos ⟨hi, h⟩]
    refine ts_ext rfl rfl rfl (fun r' c' => rfl) (fun r' c' => ?_)
    show (if _ then _ else _) = (if _ then _ else _)
    by_cases e : r' = r ∧ c' = c
    · rw [if_pos e, if_pos e]
      cases b
      · rfl
      · rcases hp with hp | hp
        · exact hp
        · exact absurd hp.2.2 h
    · rw [if_neg e, if_neg e]
theorem inT_S {t : TS} {r c r' c' : Int} {b : Bool} : inT (tsS t r c b) r' c' = inT t r' c' := by
  unfold tsS
  split <;> rfl
theorem laT_S {t : TS} {r c r' c' : Int} {b : Bool} : laT (tsS t r c b) r' c' = if inT t r c = true ∧ r' = r ∧ c' = c then b else laT t r' c' := by
  unfold tsS
  by_cases h : inT t r c = true ∧ laT t r c ≠ b
  · rw [if_pos h]
    show (if inT t r' c' then (if r' = r ∧ c' = c then b else t.2.2.2.1 r' c') else tO t) = _
    by_cases e : r' = r ∧ c' = c
    · obtain ⟨rfl, rfl⟩ := e
      simp [h.1]
    · have hn : ¬ (inT t r c = true ∧ r' = r ∧ c' = c) := fun q => e q.2
      rw [if_neg hn, if_neg e]
      rfl
  · rw [if_neg h]
    by_cases e : inT t r c = true ∧ r' = r ∧ c' = c
    · rw [if_pos e, e.2.1, e.2.2]
      exact Decidable.byContradiction fun q => h ⟨e.1, q⟩
    · rw [if_neg e]
theorem piT_S {t : TS} {r c r' c' : Int} {b : Bool} : piT (tsS t r c b) r' c' = if (inT t r c = true ∧ laT t r c ≠ b) ∧ r' = r ∧ c' = c then -1 else piT t r' c' := by
  unfold tsS
  by_cases h : inT t r c = true ∧ laT t r c ≠ b
  · rw [if_pos h]
    show (if inT t r' c' then (if r' = r ∧ c' = c then -1 else t.2.2.2.2 r' c') else -1) = _
    by_cases e : r' = r ∧ c' = c
    · rw [if_pos (show (inT t r c = true ∧ laT t r c ≠ b) ∧ r' = r ∧ c' = c from ⟨h, e⟩), if_pos e]
      split <;> rfl
    · have hn : ¬ ((inT t r c = true ∧ laT t r c ≠ b) ∧ r' = r ∧ c' = c) := fun q => e q.2
      rw [if_neg hn, if_neg e]
      rfl
  · have hn : ¬ ((inT t r c = true ∧ laT t r c ≠ b) ∧ r' = r ∧ c' = c) := fun q => h q.1
    rw [if_neg h, if_neg hn]
theorem TOk_S {t : TS} {r c : Int} {b : Bool} (hO : TOk t) : TOk (tsS t r c b) := by
  obtain ⟨h1, h2, h3, h4, h5⟩ := hO
  have eH : tH (tsS t r c b) = tH t := by unfold tsS; split <;> rfl
  have eW : tW (tsS t r c b) = tW t := by unfold tsS; split <;> rfl
  refine ⟨by rw [eH]; exact h1, by rw [eH]; exact h2, by rw [eW]; exact h3, by rw [eW]; exact h4, fun r' c' => ?_⟩
  rw [piT_S, laT_S]
  have := h5 r' c'
  by_cases e : (inT t r c = true ∧ laT t r c ≠ b) ∧ r' = r ∧ c' = c
  · rw [if_pos e]
    exact Or.inl rfl
  · rw [if_neg e]
    by_cases e2 : inT t r c = true ∧ r' = r ∧ c' = c
    · rw [if_pos e2]
      have hb : laT t r c = b := Decidable.byContradiction fun q => e ⟨⟨e2.1, q⟩, e2.2⟩
      rw [e2.2.1, e2.2.2] at this ⊢
      rw [← hb]
      exact this
    · rw [if_neg e2]
      exact this
theorem TOk_O {t : TS} {b : Bool} (hO : TOk t) : TOk (tsO t b) := by
  obtain ⟨h1, h2, h3, h4, h5⟩ := hO
  refine ⟨h1, h2, h3, h4, fun r' c' => ?_⟩
  have := h5 r' c'
  have e : piT (tsO t b) r' c' = piT t r' c' := rfl
  rw [e]
  rcases this with h | h
  · exact Or.inl h
  · by_cases hi : inT t r' c' = true
    · have e2 : laT (tsO t b) r' c' = laT t r' c' := by
        show (if inT t r' c' then _ else b) = (if inT t r' c' then _ else tO t)
        rw [if_pos hi, if_pos hi]
        rfl
      rw [e2]
      exact Or.inr h
    · exfalso
      have : piT t r' c' = -1 := by unfold piT; rw [if_neg hi]
      omega
theorem tsZ_O {M : Mem} {b : Bool} : tsZ (zup M 39 2 (zbz b) 39) = tsO (tsZ (M 39)) b := by
  have e0 : zup M 39 2 (zbz b) 39 0 = M 39 0 := zup_off (by decide)
  have e1 : zup M 39 2 (zbz b) 39 1 = M 39 1 := zup_off (by decide)
  refine ts_ext e0 e1 (by show decide _ = b; rw [zup_at]; cases b <;> rfl) (fun r c => ?_) (fun r c => ?_)
  · show (decide _ && decide _) = (decide _ && decide _)
    rw [e0, e1]
    by_cases hi : 0 ≤ r ∧ r < M 39 0 ∧ 0 ≤ c ∧ c < M 39 1
    · have y := zix (h := M 39 0) (w := M 39 1) (r := r) (c := c) ⟨hi.1, hi.2.1⟩ hi.2.2
      rw [zup_off (by omega)]
    · rw [decide_eq_false hi, Bool.false_and, Bool.false_and]
  · show (tsZ (zup M 39 2 (zbz b) 39)).2.2.2.2 r c = (tsZ (M 39)).2.2.2.2 r c
    rw [tsZ_p, tsZ_p, e0, e1]
    by_cases hi : 0 ≤ r ∧ r < M 39 0 ∧ 0 ≤ c ∧ c < M 39 1
    · have y := zix (h := M 39 0) (w := M 39 1) (r := r) (c := c) ⟨hi.1, hi.2.1⟩ hi.2.2
      rw [if_pos hi, if_pos hi, zup_off (by omega)]
    · rw [if_neg hi, if_neg hi]
theorem zRf_O {M : Mem} {b : Bool} (hZ : zRf (M 39)) : zRf (zup M 39 2 (zbz b) 39) := by
  obtain ⟨h1, h2, h3, h4, h5, h6, h7⟩ := hZ
  refine ⟨by rw [zup_off (by decide)]; exact h1, by rw [zup_off (by decide)]; exact h2, by rw [zup_off (by decide)]; exact h3, by rw [zup_off (by decide)]; exact h4, ?_, fun i h0 h8 => ?_, fun i h0 h8 => ?_⟩
  · rw [zup_at]
    cases b
    · exact Or.inl rfl
    · exact Or.inr rfl
  · rw [zup_off (by omega)]; exact h6 i h0 h8
  · rw [zup_off (by omega)]; exact h7 i h0 h8
theorem saT_Ok {t : TS} (hO : TOk t) (r c : Int) : -6 ≤ saT t r c ∧ saT t r c < 47 := by
  have hb := hO.2.2.2.2 r c
  have hr := rdZ_bd (arT_bd t r c)
  unfold saT
  split
  · split
    · omega
    · unfold rsT rmT; omega
  · omega
theorem mvR_s0 {M : Mem} {k j : Nat} {b : Int} (n : Nat) : zup (mvR M k 0 j b n) k n (M j (b + n)) = mvR M k 0 j b ((n + 1 : Nat) : Int) := by
  have := mvR_s (M := M) (k := k) (a := 0) (j := j) (b := b) n
  rwa [Int.zero_add] at this
theorem mvR_at {M : Mem} {k j : Nat} {a b n z : Int} (h : a ≤ z ∧ z < a + n) : mvR M k a j b n k z = M j (b + (z - a)) := by
  simp only [mvR]
  grind
theorem watR_z {M : Mem} {n z : Int} (h : z < 3) : watR M n 39 z = M 39 z := by
  simp only [watR]
  grind
theorem watR_off {M : Mem} {n : Int} {i : Nat} (h : i ≠ 39) : watR M n i = M i := by
  funext z
  simp [watR, h]
def bgR (M : Mem) (r c : Int) : Mem := watR (zup (zup (recR M) 39 0 r) 39 1 c) 144
def unR (M : Mem) : Mem := mvR (zup M 38 2 (M 38 2 - 1)) 39 0 40 ((M 38 2 - 1) * 291) 291
def svR (M : Mem) : Mem := mvR (zup M 38 4 (zbz true)) 41 0 39 0 291
def rsR (M : Mem) : Mem := mvR (recR M) 39 0 41 0 291
theorem zRf_ext {f g : Int → Int} (h : ∀ z : Int, 0 ≤ z → z < 291 → f z = g z) (hg : zRf g) : zRf f := by
  obtain ⟨h1, h2, h3, h4, h5, h6, h7⟩ := hg
  refine ⟨by rw [h 0 (by omega) (by omega)]; exact h1, by rw [h 0 (by omega) (by omega)]; exact h2, by rw [h 1 (by omega) (by omega)]; exact h3, by rw [h 1 (by omega) (by omega)]; exact h4, by rw [h 2 (by omega) (by omega)]; exact h5, fun i a b => ?_, fun i a b => ?_⟩
  · rw [h _ (by omega) (by omega)]; exact h6 i a b
  · rw [h _ (by omega) (by omega)]; exact h7 i a b
theorem tsZ_ext {f g : Int → Int} (h : ∀ z : Int, 0 ≤ z → z < 291 → f z = g z) (hg : zRf g) : tsZ f = tsZ g := by
  obtain ⟨h1, h2, h3, h4, h5, h6, h7⟩ := hg
  have hw := zhw h1 h2 h3 h4
  have e0 : f 0 = g 0 := h 0 (by omega) (by omega)
  have e1 : f 1 = g 1 := h 1 (by omega) (by omega)
  refine ts_ext e0 e1 (by show decide _ = decide _; rw [h 2 (by omega) (by omega)]) (fun r c => ?_) (fun r c => ?_)
  · show (decide _ && decide _) = (decide _ && decide _)
    rw [e0, e1]
    by_cases hi : 0 ≤ r ∧ r < g 0 ∧ 0 ≤ c ∧ c < g 1
    · have y := zix (h := g 0) (w := g 1) (r := r) (c := c) ⟨hi.1, hi.2.1⟩ hi.2.2
      rw [h (3 + (g 1 * r + c)) (by omega) (by omega)]
    · rw [decide_eq_false hi, Bool.false_and, Bool.false_and]
  · rw [tsZ_p, tsZ_p, e0, e1]
    by_cases hi : 0 ≤ r ∧ r < g 0 ∧ 0 ≤ c ∧ c < g 1
    · have y := zix (h := g 0) (w := g 1) (r := r) (c := c) ⟨hi.1, hi.2.1⟩ hi.2.2
      rw [if_pos hi, if_pos hi, h (147 + (g 1 * r + c)) (by omega) (by omega)]
    · rw [if_neg hi, if_neg hi]
def brR (w r c k : Int) (b : Bool) (i : Nat) (q : Mem × Int) : Mem × Int := if ((i : Int) / w - r) * ((i : Int) / w - r) + ((i : Int) % w - c) * ((i : Int) % w - c) ≤ k * k then (becR q.1 i b, if (decide (q.1 39 (3 + (i : Int)) = 1) != b) = true then q.2 + 1 else q.2) else q
theorem brR_no {w r c k : Int} {b : Bool} {i : Nat} {q : Mem × Int} (h : ¬ ((i : Int) / w - r) * ((i : Int) / w - r) + ((i : Int) % w - c) * ((i : Int) % w - c) ≤ k * k) : brR w r c k b i q = q := if_neg h
theorem brR_t {w r c k : Int} {b : Bool} {i : Nat} {q : Mem × Int} (h : ((i : Int) / w - r) * ((i : Int) / w - r) + ((i : Int) % w - c) * ((i : Int) % w - c) ≤ k * k) (hc : (decide (q.1 39 (3 + (i : Int)) = 1) != b) = true) : brR w r c k b i q = (becR q.1 i b, q.2 + 1) := by
  unfold brR
  rw [if_pos h, if_pos hc]
theorem brR_f {w r c k : Int} {b : Bool} {i : Nat} {q : Mem × Int} (h : ((i : Int) / w - r) * ((i : Int) / w - r) + ((i : Int) % w - c) * ((i : Int) % w - c) ≤ k * k) (hc : (decide (q.1 39 (3 + (i : Int)) = 1) != b) = false) : brR w r c k b i q = (becR q.1 i b, q.2) := by
  unfold brR
  rw [if_pos h, if_neg (by rw [hc]; decide)]
def brP (M0 : Mem) (q : Mem × Int) : Prop := zRf (q.1 39) ∧ (∀ k : Nat, k ≠ 39 → q.1 k = M0 k) ∧ q.1 39 0 = M0 39 0 ∧ q.1 39 1 = M0 39 1
theorem brP_bec {M0 : Mem} {q : Mem × Int} {i n : Int} {b : Bool} (hi : 0 ≤ i ∧ i < 144) (h : brP M0 q) : brP M0 (becR q.1 i b, n) := by
  obtain ⟨h1, h2, h3, h4⟩ := h
  exact ⟨zRf_bec h1 hi, fun k hk => (becR_off hk).trans (h2 k hk), (becR_z (by omega) (by omega)).trans h3, (becR_z (by omega) (by omega)).trans h4⟩
theorem brR_P {M0 : Mem} {w r c k : Int} {b : Bool} {i : Nat} {q : Mem × Int} (hi : i < 144) (h : brP M0 q) : brP M0 (brR w r c k b i q) := by
  unfold brR
  split
  · exact brP_bec (by omega) h
  · exact h
def smS (M : Mem) (n : Int) : Mem := fun k z => if k = 48 ∧ 0 ≤ z ∧ z < n then bcZ (arT (tsZ (M 39)) (z / M 39 1) (z % M 39 1)) + M 39 (3 + z) else M k z
theorem smS_off {M : Mem} {n : Int} {i : Nat} (h : i ≠ 48) : smS M n i = M i := by
  funext z
  simp [smS, h]
theorem smS_at {M : Mem} {n z : Int} (h : 0 ≤ z ∧ z < n) : smS M n 48 z = bcZ (arT (tsZ (M 39)) (z / M 39 1) (z % M 39 1)) + M 39 (3 + z) := by
  simp only [smS]
  grind
theorem smS_0 {M : Mem} : M = smS M 0 := by
  funext k z
  simp only [smS]
  grind
theorem smS_s {M : Mem} (n : Nat) : zup (smS M n) 48 n (bcZ (arT (tsZ (M 39)) ((n : Int) / M 39 1) ((n : Int) % M 39 1)) + M 39 (3 + (n : Int))) = smS M ((n + 1 : Nat) : Int) := by
  funext k z
  simp only [smS, zup]
  grind
def smR (l : Int) (i : Nat) (q : Mem × Int) : Mem × Int := (becR q.1 i (decide (l ≤ q.1 48 i)), if (decide (q.1 39 (3 + (i : Int)) = 1) != decide (l ≤ q.1 48 i)) = true then q.2 + 1 else q.2)
theorem smR_t {l : Int} {i : Nat} {q : Mem × Int} (hc : (decide (q.1 39 (3 + (i : Int)) = 1) != decide (l ≤ q.1 48 i)) = true) : smR l i q = (becR q.1 i (decide (l ≤ q.1 48 i)), q.2 + 1) := by
  unfold smR
  rw [if_pos hc]
theorem smR_f {l : Int} {i : Nat} {q : Mem × Int} (hc : (decide (q.1 39 (3 + (i : Int)) = 1) != decide (l ≤ q.1 48 i)) = false) : smR l i q = (becR q.1 i (decide (l ≤ q.1 48 i)), q.2) := by
  unfold smR
  rw [if_neg (by rw [hc]; decide)]
theorem smR_P {M0 : Mem} {l : Int} {i : Nat} {q : Mem × Int} (hi : i < 144) (h : brP M0 q) : brP M0 (smR l i q) := brP_bec (by omega) h
theorem zrep_P {α : Type} {f : Nat → α → α} {P : α → Prop} {a : α} (h0 : P a) {N : Nat} (h : ∀ i, i < N → ∀ x, P x → P (f i x)) : ∀ {n : Nat}, n ≤ N → P (zrep f n a)
  | 0, _ => h0
  | n + 1, hn => h n hn _ (zrep_P h0 h (Nat.le_of_succ_le hn))
def toP (h w : Int) (i : Int) : Int := h * (i % w) + h - 1 - i / w
def toS (M0 : Mem) (i : Nat) (M : Mem) : Mem := zup (zup M 49 (toP (M0 39 0) (M0 39 1) i) (M0 39 (3 + (i : Int)))) 50 (toP (M0 39 0) (M0 39 1) i) (if M0 39 (147 + (i : Int)) = -6 then -6 else tuZ (M0 39 (147 + (i : Int))) 1)
def cpS (M1 : Mem) (i : Nat) (M : Mem) : Mem := zup (zup M 39 (3 + (i : Int)) (M1 49 i)) 39 (147 + (i : Int)) (M1 50 i)
def trM (M : Mem) : Mem := zrep (cpS (zrep (toS M) (M 39 0 * M 39 1).toNat M)) (M 39 0 * M 39 1).toNat (zup (zup (zrep (toS M) (M 39 0 * M 39 1).toNat M) 39 0 (M 39 1)) 39 1 (M 39 0))
theorem toP_bd {h w i : Int} (h1 : 1 ≤ h) (w1 : 1 ≤ w) (hi : 0 ≤ i ∧ i < h * w) : 0 ≤ toP h w i ∧ toP h w i < h * w := by
  have x := zkx hi w1
  have y := zix (h := w) (w := h) (r := i % w) (c := h - 1 - i / w) ⟨by omega, by omega⟩ ⟨by omega, by omega⟩
  have e : w * h = h * w := Int.mul_comm w h
  unfold toP
  omega
