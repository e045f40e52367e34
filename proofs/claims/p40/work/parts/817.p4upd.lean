theorem TOk_S {t : TS} {r c : Int} {b : Bool} (hO : TOk t) : TOk (tsS t r c b) := by
  obtain ⟨h1, h2, h3, h4, h5⟩ := hO
  have eH : tH (tsS t r c b) = tH t := by unfold tsS; split <;> rfl
  have eW : tW (tsS t r c b) = tW t := by unfold tsS; split <;> rfl
  refine ⟨by rw [eH]; exact h1, by rw [eH]; exact h2, by rw [eW]; exact h3, by rw [eW]; exact h4, fun r' c' => ?_⟩
  rw [piT_S, laT_S]
  have := h5 r' c'
  by_cases e : (inT t r c = true ∧ laT t r c ≠ b) ∧ r' = r ∧ c' = c
  · rw [if_pos e]
    exact Or.inl rfl
  · rw [if_neg e]
    by_cases e2 : inT t r c = true ∧ r' = r ∧ c' = c
    · rw [if_pos e2]
      have hb : laT t r c = b := Decidable.byContradiction fun q => e ⟨⟨e2.1, q⟩, e2.2⟩
      rw [e2.2.1, e2.2.2] at this ⊢
      rw [← hb]
      exact this
    · rw [if_neg e2]
      exact this
theorem TOk_O {t : TS} {b : Bool} (hO : TOk t) : TOk (tsO t b) := by
  obtain ⟨h1, h2, h3, h4, h5⟩ := hO
  refine ⟨h1, h2, h3, h4, fun r' c' => ?_⟩
  have := h5 r' c'
  have e : piT (tsO t b) r' c' = piT t r' c' := rfl
  rw [e]
  rcases this with h | h
  · exact Or.inl h
  · by_cases hi : inT t r' c' = true
    · have e2 : laT (tsO t b) r' c' = laT t r' c' := by
        show (if inT t r' c' then _ else b) = (if inT t r' c' then _ else tO t)
        rw [if_pos hi, if_pos hi]
        rfl
      rw [e2]
      exact Or.inr h
    · exfalso
      have : piT t r' c' = -1 := by unfold piT; rw [if_neg hi]
      omega
theorem TOk_P {t : TS} {r c s : Int} (hO : TOk t) (hs : s = -1 ∨ (0 ≤ s ∧ s < 47 ∧ laT t r c = true)) : TOk (tsP t r c s) := by
  unfold tsP
  split
  · rename_i hi
    obtain ⟨h1, h2, h3, h4, h5⟩ := hO
    refine ⟨h1, h2, h3, h4, fun r' c' => ?_⟩
    have e1 : laT (tH t, tW t, tO t, t.2.2.2.1, fun r' c' => if r' = r ∧ c' = c then s else t.2.2.2.2 r' c') r' c' = laT t r' c' := rfl
    have e2 : piT (tH t, tW t, tO t, t.2.2.2.1, fun r' c' => if r' = r ∧ c' = c then s else t.2.2.2.2 r' c') r' c' = if r' = r ∧ c' = c then s else piT t r' c' := by
      show (if inT t r' c' then (if r' = r ∧ c' = c then s else t.2.2.2.2 r' c') else -1) = (if r' = r ∧ c' = c then s else if inT t r' c' then t.2.2.2.2 r' c' else -1)
      by_cases e : r' = r ∧ c' = c
      · rw [if_pos e, if_pos e, e.1, e.2, if_pos hi]
      · rw [if_neg e, if_neg e]
    rw [e1, e2]
    by_cases e : r' = r ∧ c' = c
    · rw [if_pos e, e.1, e.2]; exact hs
    · rw [if_neg e]; exact h5 r' c'
  · exact hO
theorem TOk_W {r c : Int} {o : Bool} (hr : 1 ≤ r ∧ r ≤ 12) (hc : 1 ≤ c ∧ c ≤ 12) : TOk (tsW r c o) := ⟨hr.1, hr.2, hc.1, hc.2, fun p q => Or.inl (by
  show (if inT (tsW r c o) p q then (-1 : Int) else -1) = -1
  split <;> rfl)⟩
theorem tsX_Out {Q : Mem} {b : Bool} : tsX (zup Q 0 2 (zbz b)) 0 = tsO (tsX Q 0) b := by
  have e0 : zup Q 0 2 (zbz b) 0 0 = Q 0 0 := zup_off (by decide)
  have e1 : zup Q 0 2 (zbz b) 0 1 = Q 0 1 := zup_off (by decide)
  have e2 : zup Q 0 2 (zbz b) 0 2 = zbz b := zup_at _ _ _ _
  have e9 : zup Q 0 2 (zbz b) (0 + 9) = Q (0 + 9) := zup_ne (by decide)
  have e18 : zup Q 0 2 (zbz b) (0 + 18) = Q (0 + 18) := zup_ne (by decide)
  refine ts_ext e0 e1 (by show decide (zup Q 0 2 (zbz b) 0 2 = 1) = b; rw [e2]; cases b <;> decide) (fun r c => ?_) (fun r c => ?_)
  · show (decide (0 ≤ r ∧ r < zup Q 0 2 (zbz b) 0 0 ∧ 0 ≤ c ∧ c < zup Q 0 2 (zbz b) 0 1) && decide (zup Q 0 2 (zbz b) (0 + 9) (r * 12 + c) = 1)) = _
    rw [e0, e1, e9]
    rfl
  · show (if 0 ≤ r ∧ r < zup Q 0 2 (zbz b) 0 0 ∧ 0 ≤ c ∧ c < zup Q 0 2 (zbz b) 0 1 then zup Q 0 2 (zbz b) (0 + 18) (r * 12 + c) else -1) = _
    rw [e0, e1, e18]
    rfl
theorem XI_rec {M M1 : Mem} (h : XI M) (e1 : ∀ k : Nat, k ≠ 0 → k ≠ 9 → k ≠ 18 → k ≠ 1 → k ≠ 10 → k ≠ 19 → k ≠ 33 → k ≠ 34 → k ≠ 35 → M1 k = recM M k) (s0 : zSk M1 0) (s1 : zSk M1 1) : XI M1 ∧ ∀ k : Nat, 38 ≤ k → M1 k = M k := by
  obtain ⟨hT, hS, hH⟩ := recM_XI h
  have i31 := e1 31 (by decide) (by decide) (by decide) (by decide) (by decide) (by decide) (by decide) (by decide) (by decide)
  have i32 := e1 32 (by decide) (by decide) (by decide) (by decide) (by decide) (by decide) (by decide) (by decide) (by decide)
  refine ⟨⟨?_, fun k hk => ?_, ?_⟩, fun k hk => (e1 k (by omega) (by omega) (by omega) (by omega) (by omega) (by omega) (by omega) (by omega) (by omega)).trans (recM_off h.2.2 (by omega) (by omega) (by omega))⟩
  · unfold TbX
    rw [e1 29 (by decide) (by decide) (by decide) (by decide) (by decide) (by decide) (by decide) (by decide) (by decide), e1 30 (by decide) (by decide) (by decide) (by decide) (by decide) (by decide) (by decide) (by decide) (by decide)]
    exact hT
  · by_cases k0 : k = 0
    · rw [k0]; exact s0
    · by_cases k1 : k = 1
      · rw [k1]; exact s1
      · exact zSk_congr (e1 k (by omega) (by omega) (by omega) (by omega) (by omega) (by omega) (by omega) (by omega) (by omega)) (e1 _ (by omega) (by omega) (by omega) (by omega) (by omega) (by omega) (by omega) (by omega) (by omega)) (e1 _ (by omega) (by omega) (by omega) (by omega) (by omega) (by omega) (by omega) (by omega) (by omega)) (hS k hk)
  · unfold HsX
    rw [i31, i32]
    exact hH
theorem tsS_d {t : TS} {r c : Int} {b : Bool} : tH (tsS t r c b) = tH t ∧ tW (tsS t r c b) = tW t ∧ tO (tsS t r c b) = tO t := by
  unfold tsS
  split <;> exact ⟨rfl, rfl, rfl⟩
theorem tsP_d {t : TS} {r c s : Int} : tH (tsP t r c s) = tH t ∧ tW (tsP t r c s) = tW t ∧ tO (tsP t r c s) = tO t := by
  unfold tsP
  split <;> exact ⟨rfl, rfl, rfl⟩
theorem inT_d {t t' : TS} (h : tH t' = tH t) (w : tW t' = tW t) (r c : Int) : inT t' r c = inT t r c := by
  unfold inT
  rw [h, w]
theorem laT_tsP {t : TS} {r c s r' c' : Int} : laT (tsP t r c s) r' c' = laT t r' c' := by
  unfold tsP
  split <;> rfl
theorem piT_tsP {t : TS} {r c s r' c' : Int} (hi : inT t r c = true) : piT (tsP t r c s) r' c' = if r' = r ∧ c' = c then s else piT t r' c' := by
  unfold tsP
  rw [if_pos hi]
  show (if inT t r' c' then (if r' = r ∧ c' = c then s else t.2.2.2.2 r' c') else -1) = (if r' = r ∧ c' = c then s else if inT t r' c' then t.2.2.2.2 r' c' else -1)
  by_cases e : r' = r ∧ c' = c
  · rw [if_pos e, if_pos e, e.1, e.2, if_pos hi]
  · rw [if_neg e, if_neg e]
theorem zup_fn {M : Mem} {k : Nat} {z v : Int} : zup M k z v k = fun z' => if z' = z then v else M k z' := by
  funext z'
  show (if k = k ∧ z' = z then v else M k z') = _
  by_cases h : z' = z
  · rw [if_pos ⟨rfl, h⟩, if_pos h]
  · rw [if_neg (fun h' => h h'.2), if_neg h]
theorem zbz_cases (b : Bool) : zbz b = 0 ∨ zbz b = 1 := by cases b; exact Or.inl rfl; exact Or.inr rfl
/-- a tile becomes land or water: the law's rows follow -/
theorem be_M {M : Mem} {t : TS} {r c : Int} {v : Bool} (hO : TOk t) (hM : p4M M t) (hi : inT t r c = true) : p4M (beM M r c v) (tsS t r c v) := by
  obtain ⟨hF, hP, hT⟩ := hM
  have hib := inT_bd hi
  obtain ⟨o1, o2, o3, o4, o5⟩ := hO
  have hd := tsS_d (t := t) (r := r) (c := c) (b := v)
  have e38 : beM M r c v 38 = fun z => if z = r + 1 then lyV (M 38 (r + 1)) c (zbz v) else M 38 z := by
    unfold beM
    rw [zup_ne (by decide), zup_fn]
  have e39 : beM M r c v 39 = fun z => if z = 3 * r + c / 4 then lpV (M 39 (3 * r + c / 4)) c (if v then piZ (M 39) r c else 63) else M 39 z := by
    unfold beM
    rw [zup_fn]
    funext z
    rw [zup_ne (by decide)]
  refine ⟨fun r' c' h1 h2 h3 h4 => ?_, fun r' c' hi' => ?_, ?_⟩
  · rw [hd.1] at h2
    rw [hd.2.1] at h4
    rw [e38, laZ_ly (by omega) (by omega) (zbz_cases v), laT_S]
    by_cases h : r' = r ∧ c' = c
    · rw [if_pos h, if_pos ⟨hi, h⟩]
    · rw [if_neg h, if_neg (fun h' => h h'.2)]
      exact hF r' c' h1 h2 h3 h4
  · have hi' : inT t r' c' = true := by rw [← inT_S (r := r) (c := c) (b := v)]; exact hi'
    have hib' := inT_bd hi'
    have hpz := piZ_bd (M 39) r c
    rw [e39, piZ_lp (by omega) (by omega) (by split <;> omega)]
    have hpi := piT_S (t := t) (r := r) (c := c) (r' := r') (c' := c') (b := v)
    unfold pcT
    by_cases h : r' = r ∧ c' = c
    · by_cases hl : laT t r c = v
      · have hq : piT (tsS t r c v) r' c' = piT t r c := by rw [hpi, if_neg (fun h' => h'.1.2 hl), h.1, h.2]
        rw [if_pos h, hq]
        cases v with
        | true => exact hP r c hi
        | false =>
          have hp : piT t r c = -1 := (o5 r c).resolve_right (fun h' => by rw [hl] at h'; exact absurd h'.2.2 (by decide))
          rw [if_pos hp]
          rfl
      · have hq : piT (tsS t r c v) r' c' = -1 := by rw [hpi, if_pos ⟨⟨hi, hl⟩, h⟩]
        rw [if_pos h, hq, if_pos rfl]
        cases v with
        | true =>
          have hp : piT t r c = -1 := (o5 r c).resolve_right (fun h' => hl h'.2.2)
          show piZ (M 39) r c = 63
          rw [hP r c hi]
          unfold pcT
          rw [if_pos hp]
        | false => rfl
    · have hq : piT (tsS t r c v) r' c' = piT t r' c' := by rw [hpi, if_neg (fun h' => h h'.2)]
      rw [if_neg h, hq]
      exact hP r' c' hi'
  · rw [beM_off (by decide) (by decide)]
    unfold p4T
    rw [hd.1, hd.2.1, hd.2.2]
    exact hT
theorem tsS_same {t : TS} {r c : Int} {b : Bool} (h : laT t r c = b) : tsS t r c b = t := if_neg (fun h' => h'.2 h)
/-- a pin is laid or taken: the law's rows follow -/
theorem lp_M {M : Mem} {t : TS} {r c s x : Int} (hO : TOk t) (hM : p4M M t) (hi : inT t r c = true) (hx : x = if s = -1 then 63 else s) (hs : -1 ≤ s ∧ s < 47) : p4M (zup M 39 (3 * r + c / 4) (lpV (M 39 (3 * r + c / 4)) c x)) (tsP t r c s) := by
  obtain ⟨hF, hP, hT⟩ := hM
  have hib := inT_bd hi
  obtain ⟨o1, o2, o3, o4, o5⟩ := hO
  have hd := tsP_d (t := t) (r := r) (c := c) (s := s)
  refine ⟨?_, fun r' c' hi' => ?_, ?_⟩
  · rw [zup_ne (by decide)]
    intro r' c' h1 h2 h3 h4
    rw [hd.1] at h2
    rw [hd.2.1] at h4
    rw [laT_tsP]
    exact hF r' c' h1 h2 h3 h4
  · rw [inT_d hd.1 hd.2.1] at hi'
    have hib' := inT_bd hi'
    have hx2 : 0 ≤ x ∧ x < 64 := by
      rw [hx]
      split <;> omega
    rw [zup_fn, piZ_lp (by omega) (by omega) hx2]
    unfold pcT
    rw [piT_tsP hi]
    by_cases h : r' = r ∧ c' = c
    · rw [if_pos h, if_pos h]
      exact hx
    · rw [if_neg h, if_neg h]
      exact hP r' c' hi'
  · rw [zup_ne (by decide)]
    unfold p4T
    rw [hd.1, hd.2.1, hd.2.2]
    exact hT
/-- other masks, other shapes -/
theorem mh_sa {t : TS} (hO : TOk t) {r c : Int} (hl : laT t r c = true) : mhT t r c = mkZ (saT t r c) ∧ 0 ≤ saT t r c ∧ saT t r c < 47 := by
  have h1 := p4_mo3 hO hl
  have h2 : 0 ≤ saT t r c ∧ saT t r c < 47 := by
    have h3 := saT_b hO r c
    have h4 : saT t r c ≠ -6 := (saT_ne hO r c).mpr hl
    have h5 : -6 < saT t r c := by omega
    unfold saT at h4 h5 h3 ⊢
    rw [if_pos hl] at *
    have h6 := rsT_b t r c
    rcases hO.2.2.2.2 r c with hp | ⟨hp1, hp2, -⟩
    · rw [if_neg (fun h => h hp)] at *
      exact h6
    · rw [if_pos (by omega : piT t r c ≠ -1)] at *
      omega
  unfold moA at h1
  rw [if_pos h2] at h1
  unfold hsT at h1
  rw [if_pos hl] at h1
  exact ⟨h1.symm, h2⟩
theorem ot_rs {t t' : TS} (hO : TOk t) (hO' : TOk t') (hh : tH t' = tH t) (hw : tW t' = tW t) : otS t' t = rsS t t' := by
  unfold otS rsS
  rw [zS2_dim hh hw]
  refine zS2_congr fun r c _ _ _ _ => ?_
  by_cases h1 : laT t r c = true
  · by_cases h2 : laT t' r c = true
    · have e1 := mh_sa hO h1
      have e2 := mh_sa hO' h2
      have g1 := (mkZ_bd e1.2).2.2.2
      have g2 := (mkZ_bd e2.2).2.2.2
      have hiff : mhT t' r c ≠ mhT t r c ↔ saT t' r c ≠ saT t r c := by
        rw [e1.1, e2.1]
        constructor
        · intro h h'
          exact h (by rw [h'])
        · intro h h'
          exact h (by rw [← g1, ← g2, h'])
      have hn := (saT_ne hO r c).mpr h1
      by_cases h3 : saT t' r c = saT t r c
      · rw [if_neg (fun h => (hiff.mp h.2.2) h3), if_neg (fun h => h.2.2 h3)]
      · rw [if_pos ⟨h2, h1, hiff.mpr h3⟩, if_pos ⟨hn, h2, h3⟩]
    · rw [if_neg (fun h => h2 h.1), if_neg (fun h => h2 h.2.1)]
  · rw [if_neg (fun h => h1 h.2.1), if_neg (fun h => h1 ((saT_ne hO r c).mp h.1))]
