/-! ===== coastIfChanged, needs: both tell the same ===== -/
theorem zS2_dim {t t' : TS} (h0 : tH t' = tH t) (h1 : tW t' = tW t) (g : Int → Int → Int) : zS2 t' g = zS2 t g := by rw [zS2_eq, zS2_eq, h0, h1]
def zcoN (t : TS) (r c : Int) : Int := zS1 (fun d => if laT t (r + zrow (2 * (d : Int))) (c + zcol (2 * (d : Int))) then 0 else 1) 4
theorem coT_N (t : TS) (r c : Int) : coT t r c = if laT t r c then zcoN t r c else 0 := rfl
theorem moT_N (t : TS) (r c : Int) : moT t r c = zS1 (fun d => if laT t (r + zrow (2 * (d : Int))) (c + zcol (2 * (d : Int))) then (if inT t (r + zrow (2 * (d : Int))) (c + zcol (2 * (d : Int))) then -1 else 0) else 1) 4 := by
  unfold moT zS1
  refine zrep_congr 0 (fun d _ x => ?_)
  show (if laT t (r + zrow (2 * (d : Int))) (c + zcol (2 * (d : Int))) then (if inT t (r + zrow (2 * (d : Int))) (c + zcol (2 * (d : Int))) then x + (-1) else x) else x + 1) = x + (if laT t (r + zrow (2 * (d : Int))) (c + zcol (2 * (d : Int))) then (if inT t (r + zrow (2 * (d : Int))) (c + zcol (2 * (d : Int))) then -1 else 0) else 1)
  split
  · split
    · rfl
    · exact (Int.add_zero x).symm
  · rfl
theorem zsd_inj : ∀ d : Nat, d < 4 → ∀ d' : Nat, d' < 4 → zrow (2 * (d : Int)) = zrow (2 * (d' : Int)) → zcol (2 * (d : Int)) = zcol (2 * (d' : Int)) → d = d' := by decide
theorem zsd_opp : ∀ d : Nat, d < 4 → ∀ d' : Nat, d' < 4 → ((zrow (2 * (d' : Int)) = -zrow (2 * (d : Int)) ∧ zcol (2 * (d' : Int)) = -zcol (2 * (d : Int))) ↔ d' = (d + 2) % 4) := by decide
theorem zsd_nz : ∀ d : Nat, d < 4 → ¬ (zrow (2 * (d : Int)) = 0 ∧ zcol (2 * (d : Int)) = 0) := by decide
theorem zS1_sd (r c r0 c0 : Int) (x : Nat → Int) : (∀ d : Nat, d < 4 → r = r0 + zrow (2 * (d : Int)) → c = c0 + zcol (2 * (d : Int)) → zS1 (fun d => if r = r0 + zrow (2 * (d : Int)) ∧ c = c0 + zcol (2 * (d : Int)) then x d else 0) 4 = x d) ∧ ((∀ d : Nat, d < 4 → ¬ (r = r0 + zrow (2 * (d : Int)) ∧ c = c0 + zcol (2 * (d : Int)))) → zS1 (fun d => if r = r0 + zrow (2 * (d : Int)) ∧ c = c0 + zcol (2 * (d : Int)) then x d else 0) 4 = 0) := by
  constructor
  · intro d hd h1 h2
    have e : zS1 (fun d' => if r = r0 + zrow (2 * (d' : Int)) ∧ c = c0 + zcol (2 * (d' : Int)) then x d' else 0) 4 = zS1 (fun d' => if (d' : Int) = (d : Int) then x d else 0) 4 := zS1_congr (fun d' hd' => by
      by_cases q : d' = d
      · subst q
        rw [if_pos ⟨h1, h2⟩, if_pos rfl]
      · rw [if_neg (fun z => q (zsd_inj d' hd' d hd (by omega) (by omega))), if_neg (by omega)])
    rw [e, zS1_pt, if_pos (by omega)]
  · intro h
    exact (zS1_congr (h := fun _ => 0) (fun d hd => if_neg (h d hd))).trans (zS1_zero 4)
/-- +1 for water that becomes land, -1 for land that becomes water -/
def zep (b : Bool) : Int := if b then -1 else 1
theorem coast_pt {t t' : TS} {r0 c0 : Int} (hL : ∀ p q : Int, laT t' p q = if p = r0 ∧ q = c0 then !laT t r0 c0 else laT t p q) (p q : Int) :
    coT t' p q = coT t p q + ((if p = r0 ∧ q = c0 then zep (laT t r0 c0) * zcoN t r0 c0 else 0) + zS1 (fun d => if p = r0 + zrow (2 * (d : Int)) ∧ q = c0 + zcol (2 * (d : Int)) then (if laT t (r0 + zrow (2 * (d : Int))) (c0 + zcol (2 * (d : Int))) then -(zep (laT t r0 c0)) else 0) else 0) 4) := by
  have hz := zS1_sd p q r0 c0 (fun d => if laT t (r0 + zrow (2 * (d : Int))) (c0 + zcol (2 * (d : Int))) then -(zep (laT t r0 c0)) else 0)
  rw [coT_N, coT_N, hL]
  by_cases h0 : p = r0 ∧ q = c0
  · rw [if_pos h0, if_pos h0, hz.2 (fun d hd z => zsd_nz d hd ⟨by omega, by omega⟩), h0.1, h0.2]
    have eN : zcoN t' r0 c0 = zcoN t r0 c0 := zS1_congr (fun d hd => by
      have x := hL (r0 + zrow (2 * (d : Int))) (c0 + zcol (2 * (d : Int)))
      rw [if_neg (fun z => zsd_nz d hd ⟨by omega, by omega⟩)] at x
      rw [x])
    rw [eN]
    cases laT t r0 c0
    · show zcoN t r0 c0 = 0 + (1 * zcoN t r0 c0 + 0)
      omega
    · show (0 : Int) = zcoN t r0 c0 + (-1 * zcoN t r0 c0 + 0)
      omega
  · rw [if_neg h0, if_neg h0]
    by_cases hd : ∃ d : Nat, d < 4 ∧ p = r0 + zrow (2 * (d : Int)) ∧ q = c0 + zcol (2 * (d : Int))
    · obtain ⟨d, hd, e1, e2⟩ := hd
      rw [hz.1 d hd e1 e2, ← e1, ← e2]
      cases hl : laT t p q
      · rfl
      · have eN : zcoN t' p q = zcoN t p q + zS1 (fun d' => if (d' : Int) = (((d + 2) % 4 : Nat) : Int) then -(zep (laT t r0 c0)) else 0) 4 := by
          unfold zcoN
          rw [← zS1_add]
          refine zS1_congr (fun d' hd' => ?_)
          have ho := zsd_opp d hd d' hd'
          have x := hL (p + zrow (2 * (d' : Int))) (q + zcol (2 * (d' : Int)))
          by_cases k : d' = (d + 2) % 4
          · have k2 := ho.mpr k
            have x1 : p + zrow (2 * (d' : Int)) = r0 := by omega
            have x2 : q + zcol (2 * (d' : Int)) = c0 := by omega
            rw [if_pos ⟨x1, x2⟩] at x
            rw [x, x1, x2, if_pos (show (d' : Int) = (((d + 2) % 4 : Nat) : Int) by omega)]
            cases laT t r0 c0 <;> rfl
          · rw [if_neg (fun z => k (ho.mp ⟨by omega, by omega⟩))] at x
            rw [x, if_neg (show ¬ (d' : Int) = (((d + 2) % 4 : Nat) : Int) by omega), Int.add_zero]
        rw [if_pos rfl, if_pos rfl, if_pos rfl, eN, zS1_pt, if_pos (by omega)]
        omega
    · rw [hz.2 (fun d h1 h2 => hd ⟨d, h1, h2⟩)]
      cases hl : laT t p q
      · rfl
      · have eN : zcoN t' p q = zcoN t p q := zS1_congr (fun d' hd' => by
          have x := hL (p + zrow (2 * (d' : Int))) (q + zcol (2 * (d' : Int)))
          have ho := (zsd_opp d' hd' ((d' + 2) % 4) (by omega)).mpr rfl
          rw [if_neg (fun z => hd ⟨(d' + 2) % 4, by omega, by omega, by omega⟩)] at x
          rw [x])
        rw [eN]
        omega
theorem coast_eq {t t' : TS} {r0 c0 : Int} (h0 : tH t' = tH t) (h1 : tW t' = tW t) (hi : inT t r0 c0 = true) (hL : ∀ p q : Int, laT t' p q = if p = r0 ∧ q = c0 then !laT t r0 c0 else laT t p q) : coB t' - coB t + 100 = ccA t r0 c0 := by
  have e1 : coB t' = zS2 t' (coT t') := rfl
  have e2 : coB t = zS2 t (coT t) := rfl
  have e3 : zS2 t (coT t') = zS2 t (fun p q => coT t p q + ((if p = r0 ∧ q = c0 then zep (laT t r0 c0) * zcoN t r0 c0 else 0) + zS1 (fun d => if p = r0 + zrow (2 * (d : Int)) ∧ q = c0 + zcol (2 * (d : Int)) then (if laT t (r0 + zrow (2 * (d : Int))) (c0 + zcol (2 * (d : Int))) then -(zep (laT t r0 c0)) else 0) else 0) 4)) := zS2_congr (fun p q _ _ _ _ => coast_pt hL p q)
  rw [e1, e2, zS2_dim h0 h1, e3, zS2_add, zS2_add, zS2_pt, if_pos hi, zS2_swap t (fun d p q => if p = r0 + zrow (2 * (d : Int)) ∧ q = c0 + zcol (2 * (d : Int)) then (if laT t (r0 + zrow (2 * (d : Int))) (c0 + zcol (2 * (d : Int))) then -(zep (laT t r0 c0)) else 0) else 0) 4]
  have e4 : zS1 (fun d => zS2 t (fun p q => if p = r0 + zrow (2 * (d : Int)) ∧ q = c0 + zcol (2 * (d : Int)) then (if laT t (r0 + zrow (2 * (d : Int))) (c0 + zcol (2 * (d : Int))) then -(zep (laT t r0 c0)) else 0) else 0)) 4 = zS1 (fun d => if inT t (r0 + zrow (2 * (d : Int))) (c0 + zcol (2 * (d : Int))) = true then (if laT t (r0 + zrow (2 * (d : Int))) (c0 + zcol (2 * (d : Int))) then -(zep (laT t r0 c0)) else 0) else 0) 4 := zS1_congr (fun d _ => zS2_pt t _ _ _)
  rw [e4]
  unfold ccA
  rw [if_pos hi, moT_N]
  unfold zcoN
  cases laT t r0 c0
  · show _ + (1 * zS1 _ 4 + zS1 _ 4) - _ + 100 = 100 + zS1 _ 4
    rw [Int.one_mul, ← zS1_add]
    have : ∀ a b : Int, a + b - a + 100 = 100 + b := by intro a b; omega
    rw [this]
    congr 1
    refine zS1_congr (fun d _ => ?_)
    cases laT t (r0 + zrow (2 * (d : Int))) (c0 + zcol (2 * (d : Int))) <;> cases inT t (r0 + zrow (2 * (d : Int))) (c0 + zcol (2 * (d : Int))) <;> rfl
  · show _ + (-1 * zS1 _ 4 + zS1 _ 4) - _ + 100 = 100 + -(zS1 _ 4)
    rw [show ∀ a : Int, -1 * a = -a from fun a => by omega, ← zS1_neg, ← zS1_neg, ← zS1_add]
    have : ∀ a b : Int, a + b - a + 100 = 100 + b := by intro a b; omega
    rw [this]
    congr 1
    refine zS1_congr (fun d _ => ?_)
    cases laT t (r0 + zrow (2 * (d : Int))) (c0 + zcol (2 * (d : Int))) <;> cases inT t (r0 + zrow (2 * (d : Int))) (c0 + zcol (2 * (d : Int))) <;> rfl
/-! needs -/
def zmt (s : Int) (d : Nat) : Bool := decide ((d : Int) % 2 = 0 ∨ biZ (mkZ s) (d - 1) + biZ (mkZ s) (d + 1) = 2)
theorem zmt_ok : ∀ s : Nat, s < 47 → mkZ (s : Int) = zmk (fun d => decide (biZ (mkZ s) d = 1)) 8 ∧ btZ (mkZ (s : Int)) = zmk (zmt s) 8 := by decide +kernel
def zwr (t : TS) (r c s : Int) (d : Nat) : Bool := (decide (biZ (mkZ s) d = 1) != laT t (r + zrow d) (c + zcol d)) && zmt s d
theorem wrT_eq {t : TS} {r c s : Int} (hs : 0 ≤ s ∧ s < 47) : wrT t r c s = zmk (zwr t r c s) 8 := by
  obtain ⟨n, rfl⟩ := Int.eq_ofNat_of_zero_le hs.1
  obtain ⟨h1, h2⟩ := zmt_ok n (by omega)
  unfold wrT arT
  rw [h2]
  have e : zxr (mkZ (n : Int)) (zmk (afT t r c) 8) = zmk (fun d => decide (biZ (mkZ (n : Int)) d = 1) != afT t r c d) 8 := by
    conv => lhs; rw [h1]
    exact zmk_xr _ _
  rw [e, zmk_an]
  rfl
theorem zbc_8 : ∀ b0 b1 b2 b3 b4 b5 b6 b7 : Bool, bcZ (zmk (z8 b0 b1 b2 b3 b4 b5 b6 b7) 8) = zS1 (fun d => zbz (z8 b0 b1 b2 b3 b4 b5 b6 b7 d)) 8 := by decide +kernel
theorem zbc_eq (f : Nat → Bool) : bcZ (zmk f 8) = zS1 (fun d => zbz (f d)) 8 := by
  rw [z8_of, zbc_8]
  rfl
theorem zmk_0 (f : Nat → Bool) : zmk f 8 = 0 ↔ ∀ d, d < 8 → f d = false := by
  rw [zmN_int]
  constructor
  · intro h d hd
    have h0 : zmN f 8 = 0 := by omega
    have := zmN_bit f 8 d
    rw [h0, Nat.zero_testBit, decide_eq_true hd, Bool.true_and] at this
    exact this.symm
  · intro h
    have : zmN f 8 = 0 := by
      apply Nat.eq_of_testBit_eq
      intro i
      rw [zmN_bit, Nat.zero_testBit]
      by_cases q : i < 8
      · rw [h i q, Bool.and_false]
      · rw [decide_eq_false q, Bool.false_and]
    rw [this]
    rfl
theorem neB_eq {t : TS} {r c s : Int} : ∀ n : Nat, ((∃ d, d < n ∧ zwr t r c s d = true ∧ inT t (r + zrow d) (c + zcol d) = false) → neB t r c s n = -6) ∧ ((∀ d, d < n → ¬ (zwr t r c s d = true ∧ inT t (r + zrow d) (c + zcol d) = false)) → neB t r c s n = zS1 (fun d => zbz (zwr t r c s d)) n ∧ 0 ≤ neB t r c s n)
  | 0 => ⟨fun ⟨d, hd, _⟩ => absurd hd (Nat.not_lt_zero d), fun _ => ⟨rfl, Int.le_refl 0⟩⟩
  | n + 1 => by
    have ih := neB_eq (t := t) (r := r) (c := c) (s := s) n
    have hs : neB t r c s (n + 1) = (if neB t r c s n = -6 then neB t r c s n else if ((n : Int) % 2 = 0 ∨ biZ (mkZ s) (n - 1) + biZ (mkZ s) (n + 1) = 2) ∧ laT t (r + zrow n) (c + zcol n) ≠ decide (biZ (mkZ s) n = 1) then (if inT t (r + zrow n) (c + zcol n) then neB t r c s n + 1 else -6) else neB t r c s n) := rfl
    have hw : zwr t r c s n = true ↔ (((n : Int) % 2 = 0 ∨ biZ (mkZ s) (n - 1) + biZ (mkZ s) (n + 1) = 2) ∧ laT t (r + zrow n) (c + zcol n) ≠ decide (biZ (mkZ s) n = 1)) := by
      unfold zwr zmt
      rw [Bool.and_eq_true_iff, bne_iff_ne, decide_eq_true_iff]
      exact ⟨fun z => ⟨z.2, fun e => z.1 e.symm⟩, fun z => ⟨fun e => z.2 e.symm, z.1⟩⟩
    constructor
    · rintro ⟨d, hd, h1, h2⟩
      by_cases q : d = n
      · subst q
        by_cases k : ∃ d', d' < d ∧ zwr t r c s d' = true ∧ inT t (r + zrow d') (c + zcol d') = false
        · rw [hs, if_pos (ih.1 k)]
          exact ih.1 k
        · have i2 := ih.2 (fun d' hd' z => k ⟨d', hd', z⟩)
          rw [hs, if_neg (by omega), if_pos (hw.mp h1), h2]
          rfl
      · have := ih.1 ⟨d, by omega, h1, h2⟩
        rw [hs, if_pos this]
        exact this
    · intro h
      have i2 := ih.2 (fun d hd => h d (by omega))
      have hn := h n (Nat.lt_succ_self n)
      rw [zS1_s, hs, if_neg (by omega)]
      by_cases k : zwr t r c s n = true
      · have hin : inT t (r + zrow n) (c + zcol n) = true := by
          cases e : inT t (r + zrow n) (c + zcol n)
          · exact absurd ⟨k, e⟩ hn
          · rfl
        rw [if_pos (hw.mp k), hin, k, if_pos rfl, ← i2.1]
        exact ⟨rfl, by omega⟩
      · rw [if_neg (fun z => k (hw.mpr z)), show zwr t r c s n = false by simpa using k, ← i2.1]
        exact ⟨(Int.add_zero _).symm, i2.2⟩
theorem needs_eq {t : TS} {r c s : Int} : neA t r c s = if inT t r c = true ∧ 0 ≤ s ∧ s < 47 then neB t r c s 8 else -1 := by
  unfold neA
  by_cases h : inT t r c = true ∧ 0 ≤ s ∧ s < 47
  · rw [if_pos h, if_pos h, wrT_eq h.2]
    have e : zan (zmk (zwr t r c s) 8) (obT t r c) = zmk (fun d => zwr t r c s d && ofT t r c d) 8 := zmk_an _ _
    rw [e]
    have hb := neB_eq (t := t) (r := r) (c := c) (s := s) 8
    by_cases k : ∃ d, d < 8 ∧ zwr t r c s d = true ∧ inT t (r + zrow d) (c + zcol d) = false
    · rw [hb.1 k, if_pos (fun z => ?_)]
      obtain ⟨d, k1, k2, k3⟩ := k
      have := (zmk_0 _).mp z d k1
      unfold ofT at this
      rw [k2, k3] at this
      exact absurd this (by decide)
    · have k2 : ∀ d, d < 8 → ¬ (zwr t r c s d = true ∧ inT t (r + zrow d) (c + zcol d) = false) := fun d hd z => k ⟨d, hd, z⟩
      rw [if_neg (fun z => z ((zmk_0 _).mpr (fun d hd => by
        unfold ofT
        have := k2 d hd
        revert this
        cases zwr t r c s d <;> cases inT t (r + zrow d) (c + zcol d) <;> simp))), zbc_eq, (hb.2 k2).1]
  · rw [if_neg h, if_neg h]
