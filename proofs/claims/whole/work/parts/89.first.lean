-- the first memory: what stands between calls holds of it
def zMI : Mem := fun k => cond (Nat.blt k 38) (zMX k) (zMR k)
theorem zMR_39 (z : Int) : zMR 39 z = if 3 ≤ z ∧ z < 147 then 0 else if 147 ≤ z ∧ z < 291 then -6 else if z = 0 ∨ z = 1 then 8 else 0 := by
  unfold zMR watR zup zTm zM0
  by_cases h1 : 3 ≤ z ∧ z < 147
  · rw [if_pos (⟨rfl, h1.1, by omega⟩), if_pos h1]
  · rw [if_neg (by omega), if_neg h1]
    by_cases h2 : 147 ≤ z ∧ z < 291
    · rw [if_pos ⟨rfl, h2.1, by omega⟩, if_pos h2]
    · rw [if_neg (by omega), if_neg h2]
      by_cases h3 : z = 1
      · rw [if_pos ⟨rfl, h3⟩, if_pos (Or.inr h3)]
      · rw [if_neg (by omega)]
        by_cases h4 : z = 0
        · rw [if_pos ⟨rfl, h4⟩, if_pos (Or.inl h4)]
        · rw [if_neg (by omega), if_neg (by omega), if_neg (by omega), if_neg (c := z = 0 ∨ z = 1) (by omega)]
theorem zMR_t {k : Nat} (h : k ≠ 39) : zMR k = zTm 43 44 zM0 256 k := by
  funext z
  unfold zMR watR zup
  rw [if_neg (by omega), if_neg (by omega), if_neg (by omega), if_neg (by omega)]
theorem zMR_0 {k : Nat} (h : k ≠ 39) (h1 : k ≠ 43) (h2 : k ≠ 44) (z : Int) : zMR k z = 0 := by
  rw [zMR_t h]
  unfold zTm
  rw [if_neg (by omega), if_neg (by omega)]
  rfl
theorem zMI_st : ∀ k : Nat, k < 9 → zMI k = zini8 ∧ zMI (k + 9) = zini0 ∧ zMI (k + 18) = ziniP := fun k hk => match k, hk with
  | 0, _ => ⟨rfl, rfl, rfl⟩
  | 1, _ => ⟨rfl, rfl, rfl⟩
  | 2, _ => ⟨rfl, rfl, rfl⟩
  | 3, _ => ⟨rfl, rfl, rfl⟩
  | 4, _ => ⟨rfl, rfl, rfl⟩
  | 5, _ => ⟨rfl, rfl, rfl⟩
  | 6, _ => ⟨rfl, rfl, rfl⟩
  | 7, _ => ⟨rfl, rfl, rfl⟩
  | 8, _ => ⟨rfl, rfl, rfl⟩
  | _ + 9, h => absurd h (by omega)
theorem ziniP_at {i : Int} (h0 : 0 ≤ i) (h1 : i < 144) : ziniP i = -1 := by
  show (if (18 : Nat) = 18 ∧ 0 ≤ i ∧ i < 144 then (-1 : Int) else zM0 18 i) = -1
  rw [if_pos ⟨rfl, h0, h1⟩]
theorem zMI_sk (k : Nat) (hk : k < 9) : zSk zMI k := by
  obtain ⟨h1, h2, h3⟩ := zMI_st k hk
  unfold zSk
  rw [h1, h2, h3]
  exact ⟨by decide, by decide, by decide, by decide, Or.inl (by decide), fun i _ _ => Or.inl rfl, fun i h0 h1 => by rw [ziniP_at h0 h1]; omega⟩
theorem zMI_x (k : Nat) (h : Nat.blt k 38 = true) : zMI k = zMX k := by
  show cond (Nat.blt k 38) (zMX k) (zMR k) = zMX k
  rw [h]
  rfl
theorem zMI_XI : XI zMI := by
  refine ⟨⟨fun s h0 h1 => ?_, fun m h0 h1 => ?_⟩, zMI_sk, ?_⟩
  · show zTm 29 30 zM0 256 29 s = mkZ s
    unfold zTm
    rw [zcn_e.2, if_pos ⟨rfl, h0, h1⟩]
  · show zTm 29 30 zM0 256 30 m = shZ m
    unfold zTm
    rw [if_neg (by omega), if_pos ⟨rfl, h0, by omega⟩]
  · refine ⟨(by decide : (0 : Int) ≤ 0), (by decide : (0 : Int) ≤ 5), fun i h0 h1 => ?_, fun i j h0 h1 h2 h3 h => ?_⟩
    · show 3 ≤ i + 3 ∧ i + 3 ≤ 7
      omega
    · have h : i + 3 = j + 3 := h
      omega
theorem zMI_zgX : zgX zMI := ⟨zMI_XI, Or.inl rfl, ⟨(by decide : (0 : Int) ≤ 0), (by decide : (0 : Int) ≤ 80)⟩, fun z _ _ => ⟨(by decide : (0 : Int) ≤ 0), (by decide : (0 : Int) < 128)⟩⟩
theorem zMI_r {k : Nat} (h : Nat.blt k 38 = false) : zMI k = zMR k := by
  show cond (Nat.blt k 38) (zMX k) (zMR k) = zMR k
  rw [h]
  rfl
theorem zMR_39a : zMR 39 0 = 8 ∧ zMR 39 1 = 8 ∧ zMR 39 2 = 0 := by
  rw [zMR_39, zMR_39, zMR_39]
  decide
theorem zMR_39l {i : Int} (h0 : 0 ≤ i) (h1 : i < 144) : zMR 39 (3 + i) = 0 := by rw [zMR_39, if_pos (by omega)]
theorem zMR_39p {i : Int} (h0 : 0 ≤ i) (h1 : i < 144) : zMR 39 (147 + i) = -6 := by rw [zMR_39, if_neg (by omega), if_pos (by omega)]
theorem zMI_RI : RI zMI := by
  obtain ⟨e0, e1, e2⟩ := zMR_39a
  refine ⟨⟨fun s h0 h1 => ?_, fun m h0 h1 => ?_⟩, ?_, ?_, ?_⟩
  · rw [zMI_r (by decide), zMR_t (by decide)]
    unfold zTm
    rw [zcn_e.2, if_pos ⟨rfl, h0, h1⟩]
  · rw [zMI_r (by decide), zMR_t (by decide)]
    unfold zTm
    rw [if_neg (by omega), if_pos ⟨rfl, h0, by omega⟩]
  · rw [zMI_r (by decide)]
    unfold zRf
    rw [e0, e1, e2]
    exact ⟨by decide, by decide, by decide, by decide, Or.inl rfl, fun i h0 h1 => Or.inl (zMR_39l h0 h1), fun i h0 h1 => Or.inl (zMR_39p h0 h1)⟩
  · rw [zMI_r (by decide)]
    have hh : tH (tsZ (zMR 39)) = 8 := e0
    have hw : tW (tsZ (zMR 39)) = 8 := e1
    unfold TOk
    rw [hh, hw]
    refine ⟨by decide, by decide, by decide, by decide, fun r c => Or.inl ?_⟩
    unfold piT
    split
    · show (if 0 ≤ r ∧ r < zMR 39 0 ∧ 0 ≤ c ∧ c < zMR 39 1 then (if zMR 39 (147 + (zMR 39 1 * r + c)) = -6 then (-1 : Int) else zMR 39 (147 + (zMR 39 1 * r + c))) else -1) = -1
      rw [e0, e1]
      split
      · rw [if_pos (zMR_39p (by omega) (by omega))]
      · rfl
    · rfl
  · have h : zMI 38 2 = 0 := by rw [zMI_r (by decide)]; exact zMR_0 (by decide) (by decide) (by decide) 2
    unfold HsR
    rw [h]
    decide
theorem zMI_38 (z : Int) : zMI 38 z = 0 := by rw [zMI_r (by decide)]; exact zMR_0 (by decide) (by decide) (by decide) z
theorem zMI_zgR : zgR zMI := by
  refine ⟨zMI_RI, Or.inl (zMI_38 4), fun h => ?_, fun j h0 h1 => ?_, ?_, fun z _ _ => ?_, fun z _ _ => Or.inl ?_⟩
  · rw [zMI_38] at h
    exact absurd h (by decide)
  · rw [zMI_38] at h1
    omega
  · rw [zMI_38]
    decide
  · rw [zMI_r (by decide), zMR_0 (by decide) (by decide) (by decide)]
    decide
  · rw [zMI_r (by decide)]
    exact zMR_0 (by decide) (by decide) (by decide) z
theorem zMI_ts : tsX zMI 0 = tsZ (zMI 39) := by
  obtain ⟨e0, e1, e2⟩ := zMR_39a
  rw [zMI_r (k := 39) (by decide)]
  show ((8 : Int), (8 : Int), decide ((0 : Int) = 1), (fun r c : Int => decide (0 ≤ r ∧ r < (8 : Int) ∧ 0 ≤ c ∧ c < (8 : Int)) && decide ((0 : Int) = 1)), (fun r c : Int => if 0 ≤ r ∧ r < (8 : Int) ∧ 0 ≤ c ∧ c < (8 : Int) then ziniP (r * 12 + c) else -1)) = (zMR 39 0, zMR 39 1, decide (zMR 39 2 = 1), (fun r c : Int => decide (0 ≤ r ∧ r < zMR 39 0 ∧ 0 ≤ c ∧ c < zMR 39 1) && decide (zMR 39 (3 + (zMR 39 1 * r + c)) = 1)), (fun r c : Int => if 0 ≤ r ∧ r < zMR 39 0 ∧ 0 ≤ c ∧ c < zMR 39 1 then (if zMR 39 (147 + (zMR 39 1 * r + c)) = -6 then (-1 : Int) else zMR 39 (147 + (zMR 39 1 * r + c))) else -1))
  rw [e0, e1, e2]
  refine Prod.ext rfl (Prod.ext rfl (Prod.ext rfl (Prod.ext (funext fun r => funext fun c => ?_) (funext fun r => funext fun c => ?_))))
  · show (decide (0 ≤ r ∧ r < (8 : Int) ∧ 0 ≤ c ∧ c < (8 : Int)) && decide ((0 : Int) = 1)) = (decide (0 ≤ r ∧ r < (8 : Int) ∧ 0 ≤ c ∧ c < (8 : Int)) && decide (zMR 39 (3 + (8 * r + c)) = 1))
    by_cases h : 0 ≤ r ∧ r < (8 : Int) ∧ 0 ≤ c ∧ c < (8 : Int)
    · rw [zMR_39l (by omega) (by omega)]
    · rw [decide_eq_false h, Bool.false_and, Bool.false_and]
  · show (if 0 ≤ r ∧ r < (8 : Int) ∧ 0 ≤ c ∧ c < (8 : Int) then ziniP (r * 12 + c) else -1) = (if 0 ≤ r ∧ r < (8 : Int) ∧ 0 ≤ c ∧ c < (8 : Int) then (if zMR 39 (147 + (8 * r + c)) = -6 then (-1 : Int) else zMR 39 (147 + (8 * r + c))) else -1)
    by_cases h : 0 ≤ r ∧ r < (8 : Int) ∧ 0 ≤ c ∧ c < (8 : Int)
    · rw [if_pos h, if_pos h, ziniP_at (by omega) (by omega), if_pos (zMR_39p (by omega) (by omega))]
    · rw [if_neg h, if_neg h]
theorem zMI_SR : SR zMI := by
  refine ⟨zMI_zgX, zMI_zgR, zMI_ts, ?_, fun j h0 h1 => ?_, ?_, fun h => ?_, ?_, fun z h0 h1 => ?_⟩
  · rw [zMI_38]; rfl
  · have h1 : j < 0 := h1
    omega
  · rw [zMI_38]; rfl
  · exact absurd (show (0 : Int) = 1 from h) (by decide)
  · rw [zMI_38]; rfl
  · have h1 : z < 0 := h1
    omega
/-- the whole world, out of the two constructors' -/
def zadL (b q1 q2 : Nat) (a1 a2 : Nat → Nat) : Nat → Nat := fun k => cond (Nat.blt k 38) (zb 27 q1 a1 k) (cond (Nat.blt k 53) (zb 38 q2 a2 k) b)
set_option maxRecDepth 100000 in
set_option maxHeartbeats 8000000 in
theorem zWo_all (b q1 q2 : Nat) (a1 a2 : Nat → Nat) (dA : Nat → ClassId) : (zW5 dA q1 a1 ++ zW6 dA q2 a2).set 32 (a1 32, .inl (dA 3, 5, .inr (.inr (.inr (.inr (fun j => some (zadL b q1 q2 a1 a2 (zMX 32 (j : Nat)).toNat))))))) = zWo (List.range 53) (zadL b q1 q2 a1 a2) dA zMI := by
  rw [show List.range 53 = [0, 1, 2, 3, 4, 5, 6, 7, 8, 9, 10, 11, 12, 13, 14, 15, 16, 17, 18, 19, 20, 21, 22, 23, 24, 25, 26, 27, 28, 29, 30, 31, 32, 33, 34, 35, 36, 37, 38, 39, 40, 41, 42, 43, 44, 45, 46, 47, 48, 49, 50, 51, 52] from rfl]
  unfold zW5 zW6 zWo
  simp only [List.map_cons, List.map_nil, List.cons_append, List.nil_append, List.set_cons_succ, List.set_cons_zero, zce_38]
  rfl
