/-! ===== masks bit by bit ===== -/
def zmN (f : Nat → Bool) : Nat → Nat
  | 0 => 0
  | d + 1 => zmN f d + (if f d then 2 ^ d else 0)
theorem zmN_int (f : Nat → Bool) : ∀ n : Nat, zmk f n = ((zmN f n : Nat) : Int)
  | 0 => rfl
  | n + 1 => by
    show zmk f n + (if f n then 2 ^ n else 0) = ((zmN f n + (if f n then 2 ^ n else 0) : Nat) : Int)
    rw [Int.natCast_add, zmN_int f n]
    congr 1
    split
    · simp
    · rfl
theorem zmN_lt (f : Nat → Bool) : ∀ n : Nat, zmN f n < 2 ^ n
  | 0 => by show 0 < 2 ^ 0; decide
  | n + 1 => by
    have ih := zmN_lt f n
    show zmN f n + (if f n then 2 ^ n else 0) < 2 ^ (n + 1)
    rw [Nat.pow_succ]
    split <;> omega
theorem zmN_bit (f : Nat → Bool) : ∀ (n d : Nat), (zmN f n).testBit d = (decide (d < n) && f d)
  | 0, d => by
    show Nat.testBit 0 d = _
    rw [Nat.zero_testBit, decide_eq_false (Nat.not_lt_zero d), Bool.false_and]
  | n + 1, d => by
    have hlt := zmN_lt f n
    show (zmN f n + (if f n then 2 ^ n else 0)).testBit d = _
    have e : zmN f n + (if f n then 2 ^ n else 0) = 2 ^ n * (if f n then 1 else 0) + zmN f n := by
      split <;> omega
    rw [e, Nat.testBit_two_pow_mul_add _ hlt]
    by_cases h : d < n
    · rw [if_pos h, zmN_bit f n d, decide_eq_true h, decide_eq_true (by omega : d < n + 1)]
    · rw [if_neg h]
      by_cases q : d = n
      · subst q
        rw [Nat.sub_self, decide_eq_true (Nat.lt_succ_self d), Bool.true_and]
        cases f d <;> rfl
      · rw [decide_eq_false (by omega : ¬ d < n + 1), Bool.false_and]
        have : d - n = (d - n - 1) + 1 := by omega
        rw [this]
        cases f n
        · exact Nat.zero_testBit _
        · show Nat.testBit 1 (d - n - 1 + 1) = false
          rw [Nat.testBit_succ]
          exact Nat.zero_testBit _
theorem zmk_lt8 (f : Nat → Bool) : zmN f 8 < 256 := zmN_lt f 8
theorem zmk_xr (f g : Nat → Bool) : zxr (zmk f 8) (zmk g 8) = zmk (fun d => f d != g d) 8 := by
  rw [zmN_int, zmN_int, zmN_int, zxr_nat (zmk_lt8 f) (zmk_lt8 g)]
  congr 1
  apply Nat.eq_of_testBit_eq
  intro i
  rw [Nat.testBit_xor, zmN_bit, zmN_bit, zmN_bit]
  cases decide (i < 8)
  · rfl
  · cases f i <;> cases g i <;> rfl
theorem zmk_an (f g : Nat → Bool) : zan (zmk f 8) (zmk g 8) = zmk (fun d => f d && g d) 8 := by
  rw [zmN_int, zmN_int, zmN_int, zan_nat (by have := zmk_lt8 g; omega)]
  congr 1
  apply Nat.eq_of_testBit_eq
  intro i
  rw [Nat.testBit_and, zmN_bit, zmN_bit, zmN_bit]
  cases decide (i < 8)
  · rfl
  · rw [Bool.true_and, Bool.true_and, Bool.true_and]
/-! ===== how many tiles get another shape ===== -/
def rsS (t t' : TS) : Int := zS2 t (fun r c => if saT t r c ≠ -6 ∧ laT t' r c = true ∧ saT t' r c ≠ saT t r c then 1 else 0)
theorem saT_ne {t : TS} (hO : TOk t) (r c : Int) : saT t r c ≠ -6 ↔ laT t r c = true := by
  have hb := hO.2.2.2.2 r c
  have hr := rdZ_bd (arT_bd t r c)
  unfold saT
  by_cases h : laT t r c = true
  · rw [if_pos h]
    refine ⟨fun _ => h, fun _ => ?_⟩
    split
    · omega
    · unfold rsT rmT; omega
  · rw [if_neg h]
    exact ⟨fun z => absurd rfl z, fun z => absurd z h⟩
theorem rsT_ne (t t' : TS) (r c : Int) : rsT t' r c ≠ rsT t r c ↔ rmT t r c ≠ rmT t' r c := by
  have e1 : mkZ (rsT t r c) = rmT t r c := (rdZ_bd (arT_bd t r c)).2.2.2.2.2.2.2.1
  have e2 : mkZ (rsT t' r c) = rmT t' r c := (rdZ_bd (arT_bd t' r c)).2.2.2.2.2.2.2.1
  constructor
  · intro h z
    apply h
    unfold rsT
    rw [z]
  · intro h z
    apply h
    rw [← e1, ← e2, z]
/-- one tile -/
theorem rs_at {t t' : TS} {r c m : Int} (hO : TOk t) (hp : piT t' r c = piT t r c) (hl : laT t' r c = laT t r c) (hm : arT t' r c = zxr (arT t r c) m) : (if saT t r c ≠ -6 ∧ laT t' r c = true ∧ saT t' r c ≠ saT t r c then (1 : Int) else 0) = zbz (irT t r c m) := by
  by_cases h : laT t r c = true
  · have hs := (saT_ne hO r c).mpr h
    by_cases q : piT t r c = -1
    · have e1 : saT t r c = rsT t r c := by unfold saT; rw [if_pos h, if_neg (fun z => z q)]
      have e2 : saT t' r c = rsT t' r c := by unfold saT; rw [if_pos (hl.trans h), if_neg (fun z => z (hp.trans q))]
      have e3 : irT t r c m = decide (rmT t r c ≠ rmT t' r c) := by
        unfold irT rmT
        rw [h, decide_eq_true q, hm, Bool.true_and, Bool.true_and]
      rw [e3]
      by_cases z : rmT t r c ≠ rmT t' r c
      · rw [if_pos ⟨hs, hl.trans h, by rw [e1, e2]; exact (rsT_ne t t' r c).mpr z⟩, decide_eq_true z]
        rfl
      · rw [if_neg (fun w => z ((rsT_ne t t' r c).mp (by rw [← e1, ← e2]; exact w.2.2))), decide_eq_false z]
        rfl
    · have e1 : saT t r c = piT t r c := by unfold saT; rw [if_pos h, if_pos q]
      have e2 : saT t' r c = piT t r c := by unfold saT; rw [if_pos (hl.trans h), hp, if_pos q]
      rw [if_neg (fun w => w.2.2 (e2.trans e1.symm))]
      unfold irT
      rw [decide_eq_false q, Bool.and_false, Bool.false_and]
      rfl
  · have h' : laT t r c = false := by simpa using h
    rw [if_neg (fun w => by rw [hl, h'] at w; exact absurd w.2.1 (by decide))]
    unfold irT
    rw [h', Bool.false_and, Bool.false_and]
    rfl
theorem laT_O {t : TS} {b : Bool} {r c : Int} : laT (tsO t b) r c = if inT t r c then laT t r c else b := by
  show (if inT t r c then t.2.2.2.1 r c else b) = (if inT t r c then (if inT t r c then t.2.2.2.1 r c else tO t) else b)
  cases inT t r c <;> rfl
theorem rsS_O {t : TS} {b : Bool} (hO : TOk t) : rsS t (tsO t b) = if tO t = b then 0 else roA t := by
  by_cases hb : tO t = b
  · have e : tsO t b = t := by
      rw [← hb]
      rfl
    rw [if_pos hb, e]
    refine (zS2_congr (fun r c _ _ _ _ => ?_)).trans (zS2_zero t)
    exact if_neg (fun z => z.2.2 rfl)
  · rw [if_neg hb]
    have : roA t = zS2 t (fun r c => zbz (irT t r c (obT t r c))) := rfl
    rw [this]
    refine zS2_congr (fun r c x1 x2 x3 x4 => ?_)
    have hi : inT t r c = true := decide_eq_true ⟨x1, x2, x3, x4⟩
    refine rs_at hO rfl (by rw [laT_O, if_pos hi]) ?_
    unfold arT obT
    rw [zmk_xr]
    refine zmk_congr (fun d _ => ?_)
    unfold afT ofT
    rw [laT_O]
    cases h : inT t (r + zrow d) (c + zcol d)
    · have hl : laT t (r + zrow d) (c + zcol d) = tO t := by unfold laT; rw [h]; rfl
      rw [hl]
      show b = (tO t != true)
      revert hb
      cases tO t <;> cases b <;> decide
    · show laT t _ _ = (laT t _ _ != false)
      cases laT t (r + zrow d) (c + zcol d) <;> rfl
theorem zS2_swap (t : TS) (g : Nat → Int → Int → Int) : ∀ n : Nat, zS2 t (fun r c => zS1 (fun d => g d r c) n) = zS1 (fun d => zS2 t (g d)) n
  | 0 => zS2_zero t
  | n + 1 => by
    show zS2 t (fun r c => zS1 (fun d => g d r c) n + g n r c) = zS1 (fun d => zS2 t (g d)) n + zS2 t (g n)
    rw [zS2_add, zS2_swap t g n]
theorem zdir_inj : ∀ d : Nat, d < 8 → ∀ d' : Nat, d' < 8 → zrow (d : Int) = zrow (d' : Int) → zcol (d : Int) = zcol (d' : Int) → d = d' := by decide
theorem zdir_opp : ∀ d : Nat, d < 8 → ∀ d' : Nat, d' < 8 → ((zrow (d' : Int) = -zrow (d : Int) ∧ zcol (d' : Int) = -zcol (d : Int)) ↔ d' = (d + 4) % 8) := by decide
theorem zdir_msk : ∀ d : Nat, d < 8 → rtZ (zsl 1 (d : Int)) 4 = zmk (fun d' => decide (d' = (d + 4) % 8)) 8 := by decide +kernel
theorem zdir_nz : ∀ d : Nat, d < 8 → ¬ (zrow (d : Int) = 0 ∧ zcol (d : Int) = 0) := by decide
theorem zmk_xr0 (f : Nat → Bool) : zxr (zmk f 8) (zmk (fun _ => false) 8) = zmk f 8 := by
  rw [zmk_xr]
  exact zmk_congr (fun d _ => by cases f d <;> rfl)
theorem irT_0 (t : TS) (r c : Int) : irT t r c (zmk (fun _ => false) 8) = false := by
  unfold irT arT
  rw [zmk_xr0, decide_eq_false (p := rdZ (zmk (afT t r c) 8) ≠ rdZ (zmk (afT t r c) 8)) (fun h => h rfl), Bool.and_false]
/-- one of eight places around a place -/
theorem zS1_dir (r c r0 c0 : Int) (x : Nat → Int) : (∀ d : Nat, d < 8 → r = r0 + zrow d → c = c0 + zcol d → zS1 (fun d => if r = r0 + zrow d ∧ c = c0 + zcol d then x d else 0) 8 = x d) ∧ ((∀ d : Nat, d < 8 → ¬ (r = r0 + zrow d ∧ c = c0 + zcol d)) → zS1 (fun d => if r = r0 + zrow d ∧ c = c0 + zcol d then x d else 0) 8 = 0) := by
  constructor
  · intro d hd h1 h2
    have e : zS1 (fun d' => if r = r0 + zrow d' ∧ c = c0 + zcol d' then x d' else 0) 8 = zS1 (fun d' => if (d' : Int) = (d : Int) then x d else 0) 8 := zS1_congr (fun d' hd' => by
      by_cases q : d' = d
      · subst q
        rw [if_pos ⟨h1, h2⟩, if_pos rfl]
      · rw [if_neg (fun z => q (zdir_inj d' hd' d hd (by omega) (by omega))), if_neg (by omega)])
    rw [e, zS1_pt, if_pos (by omega)]
  · intro h
    exact (zS1_congr (h := fun _ => 0) (fun d hd => if_neg (h d hd))).trans (zS1_zero 8)
theorem arT_S {t : TS} {r0 c0 : Int} {b : Bool} (hi : inT t r0 c0 = true) (hb : laT t r0 c0 ≠ b) (r c : Int) : arT (tsS t r0 c0 b) r c = zxr (arT t r c) (zmk (fun d => decide (r + zrow d = r0 ∧ c + zcol d = c0)) 8) := by
  unfold arT
  rw [zmk_xr]
  refine zmk_congr (fun d _ => ?_)
  unfold afT
  rw [laT_S]
  by_cases h : r + zrow d = r0 ∧ c + zcol d = c0
  · rw [if_pos ⟨hi, h⟩, decide_eq_true h, h.1, h.2]
    revert hb
    cases laT t r0 c0 <;> cases b <;> decide
  · rw [if_neg (fun z => h z.2), decide_eq_false h]
    cases laT t (r + zrow d) (c + zcol d) <;> rfl
theorem rbT_eq (t : TS) (r0 c0 : Int) : rbT t r0 c0 = zS1 (fun d => zbz (inT t (r0 + zrow d) (c0 + zcol d) && irT t (r0 + zrow d) (c0 + zcol d) (rtZ (zsl 1 d) 4))) 8 := by
  unfold rbT zS1
  refine zrep_congr 0 (fun d _ x => ?_)
  show (if (inT t (r0 + zrow d) (c0 + zcol d) && irT t (r0 + zrow d) (c0 + zcol d) (rtZ (zsl 1 d) 4)) = true then x + 1 else x) = x + zbz (inT t (r0 + zrow d) (c0 + zcol d) && irT t (r0 + zrow d) (c0 + zcol d) (rtZ (zsl 1 d) 4))
  cases (inT t (r0 + zrow d) (c0 + zcol d) && irT t (r0 + zrow d) (c0 + zcol d) (rtZ (zsl 1 d) 4))
  · exact (Int.add_zero x).symm
  · rfl
theorem rsS_S {t : TS} {r0 c0 : Int} {b : Bool} (hO : TOk t) (hi : inT t r0 c0 = true) : rsS t (tsS t r0 c0 b) = if laT t r0 c0 = b then 0 else rbT t r0 c0 := by
  by_cases hb : laT t r0 c0 = b
  · have e : tsS t r0 c0 b = t := if_neg (fun z => z.2 hb)
    rw [if_pos hb, e]
    refine (zS2_congr (fun r c _ _ _ _ => ?_)).trans (zS2_zero t)
    exact if_neg (fun z => z.2.2 rfl)
  · rw [if_neg hb, rbT_eq]
    have pt : ∀ r c : Int, (if saT t r c ≠ -6 ∧ laT (tsS t r0 c0 b) r c = true ∧ saT (tsS t r0 c0 b) r c ≠ saT t r c then (1 : Int) else 0) = zS1 (fun d => if r = r0 + zrow d ∧ c = c0 + zcol d then zbz (irT t (r0 + zrow d) (c0 + zcol d) (rtZ (zsl 1 d) 4)) else 0) 8 := by
      intro r c
      have hz := zS1_dir r c r0 c0 (fun d => zbz (irT t (r0 + zrow d) (c0 + zcol d) (rtZ (zsl 1 d) 4)))
      by_cases h0 : r = r0 ∧ c = c0
      · obtain ⟨rfl, rfl⟩ := h0
        rw [hz.2 (fun d hd z => zdir_nz d hd ⟨by omega, by omega⟩)]
        refine if_neg (fun w => ?_)
        have w1 := (saT_ne hO r c).mp w.1
        have w2 := w.2.1
        rw [laT_S, if_pos ⟨hi, rfl, rfl⟩] at w2
        exact hb (w1.trans w2.symm)
      · have hl : laT (tsS t r0 c0 b) r c = laT t r c := by rw [laT_S, if_neg (fun z => h0 z.2)]
        have hp : piT (tsS t r0 c0 b) r c = piT t r c := by rw [piT_S, if_neg (fun z => h0 z.2)]
        rw [rs_at hO hp hl (arT_S hi hb r c)]
        by_cases hd : ∃ d : Nat, d < 8 ∧ r = r0 + zrow d ∧ c = c0 + zcol d
        · obtain ⟨d, hd, e1, e2⟩ := hd
          rw [hz.1 d hd e1 e2, zdir_msk d hd, e1, e2]
          congr 2
          refine zmk_congr (fun d' hd' => ?_)
          have := zdir_opp d hd d' hd'
          by_cases q : d' = (d + 4) % 8
          · have := this.mpr q
            rw [decide_eq_true q, decide_eq_true (by omega)]
          · rw [decide_eq_false q, decide_eq_false (fun z => q (this.mp ⟨by omega, by omega⟩))]
        · rw [hz.2 (fun d h1 h2 => hd ⟨d, h1, h2⟩)]
          have : zmk (fun d => decide (r + zrow d = r0 ∧ c + zcol d = c0)) 8 = zmk (fun _ => false) 8 := zmk_congr (fun d h8 => by
            refine decide_eq_false (fun z => ?_)
            have ho := (zdir_opp d h8 ((d + 4) % 8) (by omega)).mpr rfl
            exact hd ⟨(d + 4) % 8, by omega, by omega, by omega⟩)
          rw [this, irT_0]
          rfl
    have e : rsS t (tsS t r0 c0 b) = zS2 t (fun r c => zS1 (fun d => if r = r0 + zrow d ∧ c = c0 + zcol d then zbz (irT t (r0 + zrow d) (c0 + zcol d) (rtZ (zsl 1 d) 4)) else 0) 8) := zS2_congr (fun r c _ _ _ _ => pt r c)
    rw [e, zS2_swap t (fun d r c => if r = r0 + zrow d ∧ c = c0 + zcol d then zbz (irT t (r0 + zrow d) (c0 + zcol d) (rtZ (zsl 1 d) 4)) else 0) 8]
    refine zS1_congr (fun d hd => ?_)
    rw [zS2_pt]
    cases inT t (r0 + zrow d) (c0 + zcol d) <;> rfl
