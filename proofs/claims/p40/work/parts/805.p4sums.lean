/-! ===== p40: sums told backwards, the first told as the last; what the questions answer at a tile ===== -/
theorem zS1_bd {g : Nat → Int} {b : Int} (hg : ∀ i, 0 ≤ g i ∧ g i ≤ b) : ∀ n : Nat, 0 ≤ zS1 g n ∧ zS1 g n ≤ b * n
  | 0 => ⟨Int.le_refl _, by show (0 : Int) ≤ b * ((0 : Nat) : Int); simp⟩
  | n + 1 => by
    have h := zS1_bd hg n
    have h2 := hg n
    rw [zS1_s]
    have e : b * ((n + 1 : Nat) : Int) = b * (n : Int) + b := by rw [Int.natCast_add, Int.mul_add]; simp
    rw [e]
    omega
theorem zrep_sh {α : Type} (f : Nat → α → α) (n : Nat) (a : α) : zrep f (n + 1) a = zrep (fun i x => f (i + 1) x) n (f 0 a) := by
  rw [show n + 1 = 1 + n by omega, zrep_add f 1 a n]
  refine zrep_congr _ fun i _ x => ?_
  rw [Nat.add_comm]
theorem zS1_sh (g : Nat → Int) (n : Nat) : zS1 g (n + 1) = g 0 + zS1 (fun i => g (i + 1)) n := by
  show zrep (fun (i : Nat) (y : Int) => y + g i) (n + 1) 0 = _
  rw [zrep_sh, zS1_from (fun i => g (i + 1)) n (0 + g 0), Int.zero_add]
theorem zS1_rev : ∀ (n : Nat) (g : Nat → Int), zS1 (fun j => g (n - 1 - j)) n = zS1 g n
  | 0, g => rfl
  | n + 1, g => by
    rw [zS1_s, zS1_sh, ← zS1_rev n (fun i => g (i + 1))]
    show zS1 (fun j => g (n + 1 - 1 - j)) n + g (n + 1 - 1 - n) = _
    rw [show n + 1 - 1 - n = 0 by omega, Int.add_comm]
    congr 1
    refine zS1_congr fun i hi => ?_
    rw [show n + 1 - 1 - i = n - 1 - i + 1 by omega]
def lastF (P : Nat → Prop) [DecidablePred P] (v : Nat → Int) (a : Int) (f : Nat → Nat) (n : Nat) : Int := zrep (fun (j : Nat) (x : Int) => if P (f j) then v (f j) else x) n a
theorem first_last : ∀ (n : Nat) (P : Nat → Bool) (v : Nat → Int) (a : Int), (∀ k, v k ≠ a) → zrep (fun (j : Nat) (x : Int) => if P (n - 1 - j) = true then v (n - 1 - j) else x) n a = zrep (fun (k : Nat) (x : Int) => if x ≠ a then x else if P k = true then v k else a) n a
  | 0, P, v, a, h => rfl
  | n + 1, P, v, a, h => by
    have keep : ∀ (m : Nat) (Q : Nat → Bool) (u : Nat → Int) (x : Int), x ≠ a → zrep (fun (k : Nat) (x : Int) => if x ≠ a then x else if Q k = true then u k else a) m x = x := by
      intro m Q u x hx
      induction m with
      | zero => rfl
      | succ m ih => rw [zrep_succ, ih, if_pos hx]
    have e1 : zrep (fun (j : Nat) (x : Int) => if P (n + 1 - 1 - j) = true then v (n + 1 - 1 - j) else x) (n + 1) a = if P 0 = true then v 0 else zrep (fun (j : Nat) (x : Int) => if P (n - 1 - j + 1) = true then v (n - 1 - j + 1) else x) n a := by
      rw [zrep_succ]
      show (if P (n + 1 - 1 - n) = true then v (n + 1 - 1 - n) else _) = _
      rw [show n + 1 - 1 - n = 0 by omega]
      congr 1
      refine zrep_congr _ fun i hi x => ?_
      rw [show n + 1 - 1 - i = n - 1 - i + 1 by omega]
    rw [e1, first_last n (fun k => P (k + 1)) (fun k => v (k + 1)) a (fun k => h (k + 1)), zrep_sh]
    show _ = zrep (fun (k : Nat) (x : Int) => if x ≠ a then x else if P (k + 1) = true then v (k + 1) else a) n (if a ≠ a then a else if P 0 = true then v 0 else a)
    have ha : (if a ≠ a then a else if P 0 = true then v 0 else a) = if P 0 = true then v 0 else a := if_neg (fun h => h rfl)
    rw [ha]
    by_cases h0 : P 0 = true
    · rw [if_pos h0, if_pos h0, keep n (fun k => P (k + 1)) (fun k => v (k + 1)) (v 0) (h 0)]
    · rw [if_neg h0, if_neg h0]
/-- what a tile has: land its mask, water what it would have -/
def hsT (t : TS) (r c : Int) : Int := if laT t r c = true then mhT t r c else rmT t r c
theorem rmT_bd (t : TS) (r c : Int) : 0 ≤ rmT t r c ∧ rmT t r c < 256 := rdZ_any _
theorem hsT_bd {t : TS} (hO : TOk t) (r c : Int) : 0 ≤ hsT t r c ∧ hsT t r c < 256 := by
  unfold hsT
  split
  · exact mhT_bd hO r c
  · exact rmT_bd t r c
theorem zxr_same {x : Int} (h : 0 ≤ x ∧ x < 256) : zxr x x = 0 := by
  obtain ⟨n, rfl⟩ := Int.eq_ofNat_of_zero_le h.1
  rw [zxr_nat (by omega) (by omega), Nat.xor_self]
  rfl
theorem bcZ_n0 : bcZ 0 = 0 := by decide
theorem p4_wrong {t : TS} (hO : TOk t) (r c : Int) : bcZ (zxr (hsT t r c) (rmT t r c)) = faT t r c := by
  unfold hsT mhT faT
  rcases hO.2.2.2.2 r c with h | ⟨h1, h2, h3⟩
  · rw [if_pos h, ite_self, zxr_same (rmT_bd t r c), bcZ_n0, if_neg (fun h' => h' h)]
  · have hn : piT t r c ≠ -1 := by omega
    rw [if_neg hn, if_pos hn, if_pos h3]
theorem p4_coast0 : ∀ n : Nat, n < 256 → 4 - bcZ (zan (n : Int) 85) = bcZ (zan (zxr (n : Int) (-1)) 85) ∧ 0 ≤ bcZ (zan (n : Int) 85) ∧ bcZ (zan (n : Int) 85) ≤ 4 := by decide +kernel
theorem p4_coast (t : TS) (r c : Int) : zbz (laT t r c) * (4 - bcZ (zan (arT t r c) 85)) = coX t r c := by
  have h := z256 (P := fun n => 4 - bcZ (zan n 85) = bcZ (zan (zxr n (-1)) 85) ∧ 0 ≤ bcZ (zan n 85) ∧ bcZ (zan n 85) ≤ 4) p4_coast0 (arT_bd t r c)
  unfold coX
  rw [h.1]
  cases laT t r c
  · simp [zbz]
  · simp [zbz]
theorem coX_bd (t : TS) (r c : Int) : 0 ≤ coX t r c ∧ coX t r c ≤ 4 := by
  have h := z256 (P := fun n => 4 - bcZ (zan n 85) = bcZ (zan (zxr n (-1)) 85) ∧ 0 ≤ bcZ (zan n 85) ∧ bcZ (zan n 85) ≤ 4) p4_coast0 (arT_bd t r c)
  unfold coX
  split <;> omega
theorem faT_b8 {t : TS} (hO : TOk t) (r c : Int) : 0 ≤ faT t r c ∧ faT t r c ≤ 8 := by
  rw [← p4_wrong hO]
  have h := rdZ_bd (zxr_bd (hsT_bd hO r c) (rmT_bd t r c))
  omega
theorem p4_mo2 (t : TS) (r c : Int) : moA (rsT t r c) = rmT t r c := by
  have h := rdZ_bd (arT_bd t r c)
  unfold moA rsT rmT
  rw [if_pos ⟨h.2.2.2.2.2.1, h.2.2.2.2.2.2.1⟩]
  exact h.2.2.2.2.2.2.2.1
theorem p4_mo3 {t : TS} (hO : TOk t) {r c : Int} (hl : laT t r c = true) : moA (saT t r c) = hsT t r c := by
  unfold saT hsT mhT
  rw [if_pos hl, if_pos hl]
  rcases hO.2.2.2.2 r c with h | ⟨h1, h2, h3⟩
  · rw [if_neg (fun h' => h' h), if_pos h]
    exact p4_mo2 t r c
  · have hn : piT t r c ≠ -1 := by omega
    rw [if_pos hn, if_neg hn]
    unfold moA
    rw [if_pos ⟨h1, h2⟩]
theorem p4_d1 {P : Prop} [Decidable P] (h : P) (h2 : zbz (decide P) ≠ 1) : False := h2 (by rw [decide_eq_true h]; rfl)
theorem p4_d0 {P : Prop} [Decidable P] (h : ¬ P) (h2 : zbz (decide P) ≠ 0) : False := h2 (by rw [decide_eq_false h]; rfl)
theorem rsT_b (t : TS) (r c : Int) : 0 ≤ rsT t r c ∧ rsT t r c < 47 := by
  have h := rdZ_bd (arT_bd t r c)
  exact ⟨h.2.2.2.2.2.1, h.2.2.2.2.2.2.1⟩
theorem saT_b {t : TS} (hO : TOk t) (r c : Int) : -6 ≤ saT t r c ∧ saT t r c < 47 := by
  unfold saT
  have h1 := rsT_b t r c
  split
  · split
    · have h2 := (hO.2.2.2.2 r c).resolve_left (by assumption)
      omega
    · omega
  · omega
-- over all tiles: k from the last to the first
section P4S
variable {t : TS} {h w : Int}
theorem p4_rev (f : Int → Int → Int) (eh : h = tH t) (ew : w = tW t) (hb : 0 ≤ tH t ∧ 1 ≤ tW t) (hp : 0 ≤ h * w) : zS1 (fun j : Nat => f ((h * w - 1 - (j : Int)) / w) ((h * w - 1 - (j : Int)) % w)) (h * w).toNat = z2 t (fun r c n => n + f r c) 0 := by
  subst eh ew
  rw [← z2_flat t (fun r c n => n + f r c) 0 hb.1 hb.2]
  show _ = zS1 (fun k : Nat => f ((k : Int) / tW t) ((k : Int) % tW t)) (tH t * tW t).toNat
  rw [← zS1_rev (tH t * tW t).toNat (fun k : Nat => f ((k : Int) / tW t) ((k : Int) % tW t))]
  refine zS1_congr fun i hi => ?_
  rw [show (tH t * tW t - 1 - (i : Int)) = (((tH t * tW t).toNat - 1 - i : Nat) : Int) by omega]
theorem p4_ff (p : Int → Int → Bool) (eh : h = tH t) (ew : w = tW t) (hb : 0 ≤ tH t ∧ 1 ≤ tW t) (hp : 0 ≤ h * w) : zrep (fun (j : Nat) (x : Int) => if p ((h * w - 1 - (j : Int)) / w) ((h * w - 1 - (j : Int)) % w) = true then 100 * ((h * w - 1 - (j : Int)) / w) + (h * w - 1 - (j : Int)) % w else x) (h * w).toNat (-6) = zfi t p := by
  subst eh ew
  unfold zfi
  rw [← z2_flat t (fun r c x => if x ≠ -6 then x else if p r c = true then 100 * r + c else -6) (-6) hb.1 hb.2]
  have e := first_last (tH t * tW t).toNat (fun k => p ((k : Int) / tW t) ((k : Int) % tW t)) (fun k => 100 * ((k : Int) / tW t) + (k : Int) % tW t) (-6) (fun k => by
    have h1 : 0 ≤ (k : Int) / tW t := Int.ediv_nonneg (by omega) (by omega)
    have h2 : 0 ≤ (k : Int) % tW t := Int.emod_nonneg _ (by omega)
    omega)
  rw [← e]
  refine zrep_congr _ fun i hi x => ?_
  rw [show (tH t * tW t - 1 - (i : Int)) = (((tH t * tW t).toNat - 1 - i : Nat) : Int) by omega]
end P4S
-- the questions, one by one
section P4Q
variable (M : Mem) (t : TS) (r c : Int)
theorem p4_ib : TOk t → inT t r c = true → -2147483648 ≤ r ∧ r < 2147483648 ∧ -2147483648 ≤ c ∧ c < 2147483648 := fun hO hi => by
  obtain ⟨h1, h2, h3, h4, -⟩ := hO
  have := inT_bd hi
  omega
theorem qt_0 : XI M → tsX M 0 = t → TOk t → inT t r c = true → zCt yX5_tile KX5_tile [zR 27, zI r, zI c, zI 0] M (fun zv zM => zv = some (zbz (laT t r c)) ∧ zM = M) := fun hX ht hO hi => by
  have hb := p4_ib t r c hO hi
  have h := ct_X5_tile M (hX.2.1 0 (by decide)) hX.1 r ⟨hb.1, hb.2.1⟩ c hb.2.2 0 (by decide)
  rw [ht] at h
  rw [show zbz (laT t r c) = tlA t r c 0 by unfold tlA; rw [if_pos hi]; rfl]
  exact h
theorem qt_1 : XI M → tsX M 0 = t → TOk t → inT t r c = true → zCt yX5_tile KX5_tile [zR 27, zI r, zI c, zI 1] M (fun zv zM => zv = some (arT t r c) ∧ zM = M) := fun hX ht hO hi => by
  have hb := p4_ib t r c hO hi
  have h := ct_X5_tile M (hX.2.1 0 (by decide)) hX.1 r ⟨hb.1, hb.2.1⟩ c hb.2.2 1 (by decide)
  rw [ht] at h
  rw [show arT t r c = tlA t r c 1 by unfold tlA; rw [if_pos hi]; rfl]
  exact h
theorem qt_2 : XI M → tsX M 0 = t → TOk t → inT t r c = true → zCt yX5_tile KX5_tile [zR 27, zI r, zI c, zI 2] M (fun zv zM => zv = some (rsT t r c) ∧ zM = M) := fun hX ht hO hi => by
  have hb := p4_ib t r c hO hi
  have h := ct_X5_tile M (hX.2.1 0 (by decide)) hX.1 r ⟨hb.1, hb.2.1⟩ c hb.2.2 2 (by decide)
  rw [ht] at h
  rw [show rsT t r c = tlA t r c 2 by unfold tlA; rw [if_pos hi]; rfl]
  exact h
theorem qt_3 : XI M → tsX M 0 = t → TOk t → inT t r c = true → zCt yX5_tile KX5_tile [zR 27, zI r, zI c, zI 3] M (fun zv zM => zv = some (saT t r c) ∧ zM = M) := fun hX ht hO hi => by
  have hb := p4_ib t r c hO hi
  have h := ct_X5_tile M (hX.2.1 0 (by decide)) hX.1 r ⟨hb.1, hb.2.1⟩ c hb.2.2 3 (by decide)
  rw [ht] at h
  rw [show saT t r c = tlA t r c 3 by unfold tlA; rw [if_pos hi]; rfl]
  exact h
theorem qt_4 : XI M → tsX M 0 = t → TOk t → inT t r c = true → zCt yX5_tile KX5_tile [zR 27, zI r, zI c, zI 4] M (fun zv zM => zv = some (zbz (decide (piT t r c ≠ -1))) ∧ zM = M) := fun hX ht hO hi => by
  have hb := p4_ib t r c hO hi
  have h := ct_X5_tile M (hX.2.1 0 (by decide)) hX.1 r ⟨hb.1, hb.2.1⟩ c hb.2.2 4 (by decide)
  rw [ht] at h
  rw [show zbz (decide (piT t r c ≠ -1)) = tlA t r c 4 by unfold tlA; rw [if_pos hi]; rfl]
  exact h
theorem qt_5 : XI M → tsX M 0 = t → TOk t → inT t r c = true → zCt yX5_tile KX5_tile [zR 27, zI r, zI c, zI 5] M (fun zv zM => zv = some (faT t r c) ∧ zM = M) := fun hX ht hO hi => by
  have hb := p4_ib t r c hO hi
  have h := ct_X5_tile M (hX.2.1 0 (by decide)) hX.1 r ⟨hb.1, hb.2.1⟩ c hb.2.2 5 (by decide)
  rw [ht] at h
  rw [show faT t r c = tlA t r c 5 by unfold tlA; rw [if_pos hi]; rfl]
  exact h
theorem qmo2 : XI M → zCt yX5_maskOf KX5_maskOf [zR 27, zI (rsT t r c)] M (fun zv zM => zv = some (rmT t r c) ∧ zM = M) := fun hX => by
  rw [← p4_mo2]
  have := rsT_b t r c
  exact ct_X5_maskOf M (hX.2.1 0 (by decide)) hX.1 (rsT t r c) (by omega)
theorem qmo3 : XI M → TOk t → laT t r c = true → zCt yX5_maskOf KX5_maskOf [zR 27, zI (saT t r c)] M (fun zv zM => zv = some (hsT t r c) ∧ zM = M) := fun hX hO hl => by
  rw [← p4_mo3 hO hl]
  have := saT_b hO r c
  exact ct_X5_maskOf M (hX.2.1 0 (by decide)) hX.1 (saT t r c) (by omega)
theorem qbits : TOk t → zCt yL_bits KL_bits [zI (zxr (hsT t r c) (rdZ (arT t r c)))] M (fun zv zM => zv = some (faT t r c) ∧ zM = M) := fun hO => by
  rw [← p4_wrong hO]
  exact ct_L_bits M _ (zxr_bd (hsT_bd hO r c) (rmT_bd t r c))
end P4Q
