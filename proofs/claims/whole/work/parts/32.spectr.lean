/-! ===== the reference's turn, cell by cell ===== -/
theorem toS_off {M0 : Mem} : ∀ (n : Nat) (M : Mem) (k : Nat), k ≠ 49 → k ≠ 50 → zrep (toS M0) n M k = M k
  | 0, _, _, _, _ => rfl
  | n + 1, M, k, h1, h2 => by
    show zup (zup (zrep (toS M0) n M) 49 _ _) 50 _ _ k = M k
    rw [zup_ne h2, zup_ne h1]
    exact toS_off n M k h1 h2
theorem toP_inj {h w i j : Int} (w1 : 1 ≤ w) (hi : 0 ≤ i ∧ i < h * w) (hj : 0 ≤ j ∧ j < h * w) (e : toP h w i = toP h w j) : i = j := by
  have x := zkx hi w1
  have y := zkx hj w1
  have z := zix_inj (w := h) (r := i % w) (c := h - 1 - i / w) (r' := j % w) (c' := h - 1 - j / w) (by omega) (by omega) (by omega) (by omega) (by unfold toP at e; omega)
  rw [← x.2.2.2.2, ← y.2.2.2.2, z.1, show i / w = j / w from by omega]
def toQ (h w : Int) (j : Int) : Int := w * (h - 1 - j % h) + j / h
theorem toQ_P {h w j : Int} (h1 : 1 ≤ h) (hj : 0 ≤ j ∧ j < h * w) : 0 ≤ toQ h w j ∧ toQ h w j < h * w ∧ toP h w (toQ h w j) = j := by
  have e : w * h = h * w := Int.mul_comm w h
  have x := zkx (h := w) (w := h) (k := j) (by omega) h1
  have y := zix (h := h) (w := w) (r := h - 1 - j % h) (c := j / h) (by omega) (by omega)
  refine ⟨y.1, y.2.1, ?_⟩
  unfold toP toQ
  rw [y.2.2.1, y.2.2.2]
  have := x.2.2.2.2
  omega
def toV (M0 : Mem) (i : Int) : Int := if M0 39 (147 + i) = -6 then -6 else tuZ (M0 39 (147 + i)) 1
theorem toS_at {M0 : Mem} (w1 : 1 ≤ M0 39 1) : ∀ (n : Nat) (M : Mem), (n : Int) ≤ M0 39 0 * M0 39 1 → ∀ i : Int, 0 ≤ i → i < n →
    zrep (toS M0) n M 49 (toP (M0 39 0) (M0 39 1) i) = M0 39 (3 + i) ∧ zrep (toS M0) n M 50 (toP (M0 39 0) (M0 39 1) i) = toV M0 i
  | 0, _, _, i, h0, h1 => absurd h1 (by omega)
  | n + 1, M, hn, i, h0, h1 => by
    have ih := toS_at w1 n M (by omega) i h0
    show zup (zup (zrep (toS M0) n M) 49 (toP (M0 39 0) (M0 39 1) n) _) 50 (toP (M0 39 0) (M0 39 1) n) (toV M0 n) 49 _ = _ ∧ zup (zup (zrep (toS M0) n M) 49 (toP (M0 39 0) (M0 39 1) n) _) 50 (toP (M0 39 0) (M0 39 1) n) (toV M0 n) 50 _ = _
    by_cases e : i = n
    · subst e
      rw [zup_at, zup_ne (show (49 : Nat) ≠ 50 by decide), zup_at]
      exact ⟨rfl, rfl⟩
    · have hne : toP (M0 39 0) (M0 39 1) i ≠ toP (M0 39 0) (M0 39 1) n := fun q => e (toP_inj w1 ⟨h0, by omega⟩ ⟨by omega, by omega⟩ q)
      rw [zup_ne (show (49 : Nat) ≠ 50 by decide), zup_off hne, zup_off hne, zup_ne (show (50 : Nat) ≠ 49 by decide)]
      exact ih (by omega)
theorem cpS_off {M1 : Mem} : ∀ (n : Nat) (M : Mem) (k : Nat), k ≠ 39 → zrep (cpS M1) n M k = M k
  | 0, _, _, _ => rfl
  | n + 1, M, k, h1 => by
    show zup (zup (zrep (cpS M1) n M) 39 _ _) 39 _ _ k = M k
    rw [zup_ne h1, zup_ne h1]
    exact cpS_off n M k h1
theorem cpS_lo {M1 : Mem} : ∀ (n : Nat) (M : Mem) (z : Int), z < 3 → zrep (cpS M1) n M 39 z = M 39 z
  | 0, _, _, _ => rfl
  | n + 1, M, z, h1 => by
    show zup (zup (zrep (cpS M1) n M) 39 (3 + (n : Int)) _) 39 (147 + (n : Int)) _ 39 z = M 39 z
    rw [zup_off (by omega), zup_off (by omega)]
    exact cpS_lo n M z h1
theorem cpS_t {M1 : Mem} : ∀ (n : Nat) (M : Mem), n ≤ 144 → ∀ i : Int, 0 ≤ i → i < 144 → zrep (cpS M1) n M 39 (3 + i) = if i < n then M1 49 i else M 39 (3 + i)
  | 0, M, _, i, h0, h1 => by rw [if_neg (by omega)]; rfl
  | n + 1, M, hn, i, h0, h1 => by
    show zup (zup (zrep (cpS M1) n M) 39 (3 + (n : Int)) (M1 49 n)) 39 (147 + (n : Int)) _ 39 (3 + i) = _
    rw [zup_off (by omega)]
    by_cases e : i = n
    · subst e
      rw [zup_at, if_pos (by omega)]
    · rw [zup_off (by omega), cpS_t n M (by omega) i h0 h1]
      by_cases h : i < n
      · rw [if_pos h, if_pos (by omega)]
      · rw [if_neg h, if_neg (by omega)]
theorem cpS_p {M1 : Mem} : ∀ (n : Nat) (M : Mem), n ≤ 144 → ∀ i : Int, 0 ≤ i → i < 144 → zrep (cpS M1) n M 39 (147 + i) = if i < n then M1 50 i else M 39 (147 + i)
  | 0, M, _, i, h0, h1 => by rw [if_neg (by omega)]; rfl
  | n + 1, M, hn, i, h0, h1 => by
    show zup (zup (zrep (cpS M1) n M) 39 (3 + (n : Int)) (M1 49 n)) 39 (147 + (n : Int)) (M1 50 n) 39 (147 + i) = _
    by_cases e : i = n
    · subst e
      rw [zup_at, if_pos (by omega)]
    · rw [zup_off (by omega), zup_off (by omega), cpS_p n M (by omega) i h0 h1]
      by_cases h : i < n
      · rw [if_pos h, if_pos (by omega)]
      · rw [if_neg h, if_neg (by omega)]
theorem trM_off {M : Mem} {k : Nat} (h1 : k ≠ 39) (h2 : k ≠ 49) (h3 : k ≠ 50) : trM M k = M k := by
  unfold trM
  rw [cpS_off _ _ _ h1, zup_ne h1, zup_ne h1, toS_off _ _ _ h2 h3]
theorem trM_0 {M : Mem} : trM M 39 0 = M 39 1 := by
  unfold trM
  rw [cpS_lo _ _ _ (by decide), zup_off (by decide), zup_at]
theorem trM_1 {M : Mem} : trM M 39 1 = M 39 0 := by
  unfold trM
  rw [cpS_lo _ _ _ (by decide), zup_at]
theorem trM_2 {M : Mem} : trM M 39 2 = M 39 2 := by
  unfold trM
  rw [cpS_lo _ _ _ (by decide), zup_off (by decide), zup_off (by decide), toS_off _ _ _ (by decide) (by decide)]
theorem trM_tp {M : Mem} (hZ : zRf (M 39)) {j : Int} (h0 : 0 ≤ j) (h1 : j < 144) :
    trM M 39 (3 + j) = (if j < M 39 0 * M 39 1 then M 39 (3 + toQ (M 39 0) (M 39 1) j) else M 39 (3 + j)) ∧
    trM M 39 (147 + j) = (if j < M 39 0 * M 39 1 then toV M (toQ (M 39 0) (M 39 1) j) else M 39 (147 + j)) := by
  obtain ⟨z1, z2, z3, z4, z5, z6, z7⟩ := hZ
  have hw := zhw z1 z2 z3 z4
  unfold trM
  rw [cpS_t _ _ (by omega) j h0 h1, cpS_p _ _ (by omega) j h0 h1]
  by_cases h : j < M 39 0 * M 39 1
  · have q := toQ_P z1 ⟨h0, h⟩
    have a := toS_at z3 (M 39 0 * M 39 1).toNat M (by omega) _ q.1 (by omega)
    rw [q.2.2] at a
    rw [if_pos (by omega), if_pos h, if_pos (by omega), if_pos h]
    exact a
  · rw [if_neg (by omega), if_neg h, if_neg (by omega), if_neg h, zup_off (by omega), zup_off (by omega), zup_off (by omega), zup_off (by omega), toS_off _ _ _ (by decide) (by decide)]
    exact ⟨rfl, rfl⟩
theorem zRf_tr {M : Mem} (hZ : zRf (M 39)) : zRf (trM M 39) := by
  obtain ⟨z1, z2, z3, z4, z5, z6, z7⟩ := id hZ
  have hw := zhw z1 z2 z3 z4
  refine ⟨by rw [trM_0]; exact z3, by rw [trM_0]; exact z4, by rw [trM_1]; exact z1, by rw [trM_1]; exact z2, by rw [trM_2]; exact z5, fun i a b => ?_, fun i a b => ?_⟩
  · rw [(trM_tp hZ a b).1]
    split
    · rename_i h
      have q := toQ_P z1 ⟨a, h⟩
      exact z6 _ q.1 (by omega)
    · exact z6 i a b
  · rw [(trM_tp hZ a b).2]
    split
    · rename_i h
      have q := toQ_P z1 ⟨a, h⟩
      have := z7 _ q.1 (by omega)
      unfold toV
      split
      · exact Or.inl rfl
      · rename_i h2
        have := tuZ_ok (s := M 39 (147 + toQ (M 39 0) (M 39 1) i)) (by omega)
        exact Or.inr (by omega)
    · exact z7 i a b
/-- the map, turned once -/
def toT (t : TS) : TS := (tW t, tH t, tO t, fun r c => t.2.2.2.1 (tH t - 1 - c) r, fun r c => if t.2.2.2.2 (tH t - 1 - c) r = -1 then -1 else tuZ (t.2.2.2.2 (tH t - 1 - c) r) 1)
theorem tsZ_l (f : Int → Int) (r c : Int) : (tsZ f).2.2.2.1 r c = (decide (0 ≤ r ∧ r < f 0 ∧ 0 ≤ c ∧ c < f 1) && decide (f (3 + (f 1 * r + c)) = 1)) := rfl
theorem toQ_ix {h w r c : Int} (hr : 0 ≤ r ∧ r < w) (hc : 0 ≤ c ∧ c < h) : toQ h w (h * r + c) = w * (h - 1 - c) + r := by
  have x := zix (h := w) (w := h) hr hc
  unfold toQ
  rw [x.2.2.1, x.2.2.2]
theorem tsZ_tr {M : Mem} (hZ : zRf (M 39)) : tsZ (trM M 39) = toT (tsZ (M 39)) := by
  obtain ⟨z1, z2, z3, z4, z5, z6, z7⟩ := id hZ
  have hw := zhw z1 z2 z3 z4
  refine ts_ext trM_0 trM_1 (by show decide _ = decide _; rw [trM_2]) (fun r c => ?_) (fun r c => ?_)
  · show (tsZ (trM M 39)).2.2.2.1 r c = (tsZ (M 39)).2.2.2.1 (M 39 0 - 1 - c) r
    rw [tsZ_l, tsZ_l, trM_0, trM_1]
    by_cases hi : 0 ≤ r ∧ r < M 39 1 ∧ 0 ≤ c ∧ c < M 39 0
    · have y := zix (h := M 39 1) (w := M 39 0) ⟨hi.1, hi.2.1⟩ hi.2.2
      have e : M 39 1 * M 39 0 = M 39 0 * M 39 1 := Int.mul_comm _ _
      rw [(trM_tp hZ y.1 (by omega)).1, if_pos (by omega), toQ_ix ⟨hi.1, hi.2.1⟩ hi.2.2, decide_eq_true hi, decide_eq_true (show 0 ≤ M 39 0 - 1 - c ∧ M 39 0 - 1 - c < M 39 0 ∧ 0 ≤ r ∧ r < M 39 1 by omega)]
    · rw [decide_eq_false hi, decide_eq_false (show ¬ (0 ≤ M 39 0 - 1 - c ∧ M 39 0 - 1 - c < M 39 0 ∧ 0 ≤ r ∧ r < M 39 1) by omega), Bool.false_and, Bool.false_and]
  · show (tsZ (trM M 39)).2.2.2.2 r c = if (tsZ (M 39)).2.2.2.2 (M 39 0 - 1 - c) r = -1 then -1 else tuZ ((tsZ (M 39)).2.2.2.2 (M 39 0 - 1 - c) r) 1
    rw [tsZ_p, tsZ_p, trM_0, trM_1]
    by_cases hi : 0 ≤ r ∧ r < M 39 1 ∧ 0 ≤ c ∧ c < M 39 0
    · have y := zix (h := M 39 1) (w := M 39 0) ⟨hi.1, hi.2.1⟩ hi.2.2
      have e : M 39 1 * M 39 0 = M 39 0 * M 39 1 := Int.mul_comm _ _
      have hi2 : 0 ≤ M 39 0 - 1 - c ∧ M 39 0 - 1 - c < M 39 0 ∧ 0 ≤ r ∧ r < M 39 1 := by omega
      have y2 := zix (h := M 39 0) (w := M 39 1) ⟨hi2.1, hi2.2.1⟩ hi2.2.2
      rw [(trM_tp hZ y.1 (by omega)).2, if_pos hi, if_pos (show M 39 0 * r + c < M 39 0 * M 39 1 by omega), toQ_ix ⟨hi.1, hi.2.1⟩ hi.2.2, if_pos hi2]
      unfold toV
      have p := z7 _ y2.1 (by omega)
      by_cases hp : M 39 (147 + (M 39 1 * (M 39 0 - 1 - c) + r)) = -6
      · rw [if_pos hp, if_pos rfl, if_pos hp, if_pos rfl]
      · have t := tuZ_ok (s := M 39 (147 + (M 39 1 * (M 39 0 - 1 - c) + r))) (by omega)
        rw [if_neg hp, if_neg (by omega), if_neg hp, if_neg (by omega)]
    · rw [if_neg hi, if_neg (show ¬ (0 ≤ M 39 0 - 1 - c ∧ M 39 0 - 1 - c < M 39 0 ∧ 0 ≤ r ∧ r < M 39 1) by omega), if_pos rfl]
def tpP (M0 M : Mem) : Prop := zRf (M 39) ∧ ∀ k : Nat, k ≠ 39 → k ≠ 49 → k ≠ 50 → M k = M0 k
theorem tpP_s {M0 M : Mem} (h : tpP M0 M) : tpP M0 (trM M) := ⟨zRf_tr h.1, fun k a b c => (trM_off a b c).trans (h.2 k a b c)⟩
def pinR (M : Mem) (k s : Int) : Mem := zup M 39 (147 + k) s
theorem zRf_pin {M : Mem} {k s : Int} (hZ : zRf (M 39)) (hk : 0 ≤ k ∧ k < 144) (hs : s = -6 ∨ (0 ≤ s ∧ s < 47)) : zRf (pinR M k s 39) := by
  obtain ⟨h1, h2, h3, h4, h5, h6, h7⟩ := hZ
  unfold pinR
  refine ⟨by rw [zup_off (by omega)]; exact h1, by rw [zup_off (by omega)]; exact h2, by rw [zup_off (by omega)]; exact h3, by rw [zup_off (by omega)]; exact h4, by rw [zup_off (by omega)]; exact h5, fun i h0 h8 => ?_, fun i h0 h8 => ?_⟩
  · rw [zup_off (by omega)]; exact h6 i h0 h8
  · by_cases e : i = k
    · subst e; rw [zup_at]; exact hs
    · rw [zup_off (by omega)]; exact h7 i h0 h8
theorem tsZ_pin {M : Mem} {r c s : Int} (hZ : zRf (M 39)) (hr : 0 ≤ r ∧ r < M 39 0) (hc : 0 ≤ c ∧ c < M 39 1) : tsZ (pinR M (M 39 1 * r + c) s 39) = tsP (tsZ (M 39)) r c (if s = -6 then -1 else s) := by
  obtain ⟨h1, h2, h3, h4, h5, h6, h7⟩ := hZ
  have hw := zhw h1 h2 h3 h4
  have x := zix hr hc
  have e0 : pinR M (M 39 1 * r + c) s 39 0 = M 39 0 := zup_off (by omega)
  have e1 : pinR M (M 39 1 * r + c) s 39 1 = M 39 1 := zup_off (by omega)
  have e2 : pinR M (M 39 1 * r + c) s 39 2 = M 39 2 := zup_off (by omega)
  have hi : inT (tsZ (M 39)) r c = true := by
    rw [inT_Z]
    exact decide_eq_true ⟨hr.1, hr.2, hc.1, hc.2⟩
  unfold tsP
  rw [if_pos hi]
  refine ts_ext e0 e1 (by show decide _ = decide _; rw [e2]) (fun r' c' => ?_) (fun r' c' => ?_)
  · show (tsZ (pinR M (M 39 1 * r + c) s 39)).2.2.2.1 r' c' = (tsZ (M 39)).2.2.2.1 r' c'
    rw [tsZ_l, tsZ_l, e0, e1]
    by_cases hi : 0 ≤ r' ∧ r' < M 39 0 ∧ 0 ≤ c' ∧ c' < M 39 1
    · have y := zix (h := M 39 0) (w := M 39 1) (r := r') (c := c') ⟨hi.1, hi.2.1⟩ hi.2.2
      rw [show pinR M (M 39 1 * r + c) s 39 (3 + (M 39 1 * r' + c')) = M 39 (3 + (M 39 1 * r' + c')) from zup_off (by omega)]
    · rw [decide_eq_false hi, Bool.false_and, Bool.false_and]
  · show (tsZ (pinR M (M 39 1 * r + c) s 39)).2.2.2.2 r' c' = if r' = r ∧ c' = c then (if s = -6 then -1 else s) else (tsZ (M 39)).2.2.2.2 r' c'
    rw [tsZ_p, tsZ_p, e0, e1]
    by_cases hi : 0 ≤ r' ∧ r' < M 39 0 ∧ 0 ≤ c' ∧ c' < M 39 1
    · have y := zix (h := M 39 0) (w := M 39 1) (r := r') (c := c') ⟨hi.1, hi.2.1⟩ hi.2.2
      by_cases e : r' = r ∧ c' = c
      · rw [if_pos hi, if_pos e, e.1, e.2, show pinR M (M 39 1 * r + c) s 39 (147 + (M 39 1 * r + c)) = s from zup_at _ _ _ _]
      · have hne : M 39 1 * r' + c' ≠ M 39 1 * r + c := fun q => e (zix_inj hi.2.2 hc hi.1 hr.1 q)
        rw [if_pos hi, if_pos hi, if_neg e, show pinR M (M 39 1 * r + c) s 39 (147 + (M 39 1 * r' + c')) = M 39 (147 + (M 39 1 * r' + c')) from zup_off (by omega)]
    · rw [if_neg hi, if_neg hi, if_neg (fun q => hi (by rw [q.1, q.2]; exact ⟨hr.1, hr.2, hc.1, hc.2⟩))]
theorem TOk_P {t : TS} {r c s : Int} (hO : TOk t) (hs : s = -1 ∨ (0 ≤ s ∧ s < 47 ∧ laT t r c = true)) : TOk (tsP t r c s) := by
  unfold tsP
  split
  · rename_i hi
    obtain ⟨h1, h2, h3, h4, h5⟩ := hO
    refine ⟨h1, h2, h3, h4, fun r' c' => ?_⟩
    have e1 : laT (tH t, tW t, tO t, t.2.2.2.1, fun r' c' => if r' = r ∧ c' = c then s else t.2.2.2.2 r' c') r' c' = laT t r' c' := rfl
    have e2 : piT (tH t, tW t, tO t, t.2.2.2.1, fun r' c' => if r' = r ∧ c' = c then s else t.2.2.2.2 r' c') r' c' = if r' = r ∧ c' = c then s else piT t r' c' := by
      show (if inT t r' c' then (if r' = r ∧ c' = c then s else t.2.2.2.2 r' c') else -1) = (if r' = r ∧ c' = c then s else if inT t r' c' then t.2.2.2.2 r' c' else -1)
      by_cases e : r' = r ∧ c' = c
      · rw [if_pos e, if_pos e, e.1, e.2, if_pos hi]
      · rw [if_neg e, if_neg e]
    rw [e1, e2]
    by_cases e : r' = r ∧ c' = c
    · rw [if_pos e, e.1, e.2]; exact hs
    · rw [if_neg e]; exact h5 r' c'
  · exact hO
theorem zch_id0 : ∀ n : Nat, n < 128 → zch (n : Int) = n ∧ vp_nar .char (iI (n : Int)) = iI n := by decide +kernel
theorem zch_id {x : Int} (h : 0 ≤ x ∧ x < 128) : zch x = x ∧ vp_nar .char (iI x) = iI x := by
  have := zch_id0 x.toNat (by omega)
  rwa [Int.toNat_of_nonneg h.1] at this
