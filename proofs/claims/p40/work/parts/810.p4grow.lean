/-! ===== p40: sets that grow are distances; rows of twelve bits ===== -/
theorem zbt_nat {n k : Nat} (hk : k < 32) : zbt (n : Int) k = n.testBit k := by
  unfold zbt
  rw [iI_nI]
  show (BitVec.ofNat 32 n).getLsbD k = n.testBit k
  rw [BitVec.getLsbD_ofNat, decide_eq_true hk, Bool.true_and]
theorem zmk12_bd (f : Nat → Bool) : 0 ≤ zmk f 12 ∧ zmk f 12 < 4096 := by
  have h := zmk_bd f 12
  have e : (2 : Int) ^ 12 = 4096 := by decide
  rw [e] at h
  exact h
theorem zmk12_bt (f : Nat → Bool) {k : Nat} (hk : k < 32) : zbt (zmk f 12) k = (decide (k < 12) && f k) := by
  rw [zmN_int, zbt_nat hk, zmN_bit]
theorem zmk12_ext {x : Int} (hx : -2147483648 ≤ x ∧ x < 2147483648) {f : Nat → Bool} (h : ∀ k : Nat, k < 32 → zbt x k = (decide (k < 12) && f k)) : x = zmk f 12 := by
  have hb := zmk12_bd f
  have e : iI x = iI (zmk f 12) := zbt_ext fun k hk => by rw [h k hk, zmk12_bt f hk]
  have := congrArg Int32.toInt e
  rw [iI_toInt hx, iI_toInt (by omega)] at this
  exact this
theorem i32_bd (x : Int32) : -2147483648 ≤ x.toInt ∧ x.toInt < 2147483648 := ⟨Int32.le_toInt _, Int32.toInt_lt _⟩
theorem zmk12_bit {f : Nat → Bool} {c : Int} (hc : 0 ≤ c ∧ c < 12) : zan (zsr (zmk f 12) c) 1 = zbz (f c.toNat) := by
  obtain ⟨n, rfl⟩ := Int.eq_ofNat_of_zero_le hc.1
  rw [zan_1, zbt_sr _ (by omega), zmk12_bt f (by omega), decide_eq_true (by omega), Bool.true_and, Int.toNat_natCast, Nat.add_zero]
theorem zmk12_b0 (f : Nat → Bool) : zan (zmk f 12) 1 = zbz (f 0) := by
  rw [zan_1, zmk12_bt f (by omega), decide_eq_true (by omega), Bool.true_and]
theorem zmk12_or (f g : Nat → Bool) : zor (zmk f 12) (zmk g 12) = zmk (fun k => f k || g k) 12 := by
  refine zmk12_ext (x := zor (zmk f 12) (zmk g 12)) (by unfold zor; exact i32_bd _) fun k hk => ?_
  rw [zbt_or, zmk12_bt f hk, zmk12_bt g hk]
  cases decide (k < 12) <;> rfl
theorem zsl12_0 : ∀ n : Nat, n < 12 → zsl 1 (n : Int) = zmk (fun k => decide (k = n)) 12 := by decide +kernel
theorem zsl12 {c : Int} (hc : 0 ≤ c ∧ c < 12) : zsl 1 c = zmk (fun k => decide ((k : Int) = c)) 12 := by
  obtain ⟨n, rfl⟩ := Int.eq_ofNat_of_zero_le hc.1
  rw [zsl12_0 n (by omega)]
  refine zmk_congr fun d _ => ?_
  by_cases h : d = n
  · rw [decide_eq_true h, decide_eq_true (by omega)]
  · rw [decide_eq_false h, decide_eq_false (by omega)]
theorem zmk12_none {f : Nat → Bool} (h : ∀ k, k < 12 → f k = false) : zmk f 12 = 0 := by
  rw [zmk_congr (g := fun _ => false) h]
  decide
theorem zmk12_ne (f : Nat → Bool) : zmk f 12 ≠ 0 ↔ ∃ k, k < 12 ∧ f k = true := by
  constructor
  · intro h
    refine Classical.byContradiction fun hn => h (zmk12_none fun k hk => ?_)
    cases hf : f k with
    | false => rfl
    | true => exact absurd ⟨k, hk, hf⟩ hn
  · rintro ⟨k, hk, hf⟩ h0
    have := zmk12_bt f (k := k) (by omega)
    rw [h0, zbt_0 k (by omega), decide_eq_true hk, Bool.true_and, hf] at this
    cases this
/-- the memory of a walk of spread: its set, its row of new ones -/
def hM (M : Mem) (S : Int → Int → Bool) (B : Int → Int) : Mem := fun k z => if k = 43 then (if 0 ≤ z ∧ z < 12 then zmk (fun c : Nat => S z c) 12 else 0) else if k = 44 then B z else M k z
theorem hM_lo {M : Mem} {S : Int → Int → Bool} {B : Int → Int} {k : Nat} (h : k < 43) : hM M S B k = M k := by
  funext z
  show (if k = 43 then _ else if k = 44 then _ else M k z) = M k z
  rw [if_neg (by omega), if_neg (by omega)]
theorem hM_43 {M : Mem} {S : Int → Int → Bool} {B : Int → Int} {z : Int} (h : 0 ≤ z ∧ z < 12) : hM M S B 43 z = zmk (fun c : Nat => S z c) 12 := by
  show (if (43 : Nat) = 43 then (if 0 ≤ z ∧ z < 12 then zmk (fun c : Nat => S z c) 12 else 0) else _) = _
  rw [if_pos rfl, if_pos h]
theorem hM_bit {M : Mem} {S : Int → Int → Bool} {B : Int → Int} {r c : Int} (hr : 0 ≤ r ∧ r < 12) (hc : 0 ≤ c ∧ c < 12) : zan (zsr (hM M S B 43 r) c) 1 = zbz (S r c) := by
  rw [hM_43 hr, zmk12_bit hc, Int.toNat_of_nonneg hc.1]
theorem hM_b0 {M : Mem} {S : Int → Int → Bool} {B : Int → Int} {r : Int} (hr : 0 ≤ r ∧ r < 12) : zan (hM M S B 43 r) 1 = zbz (S r 0) := by
  rw [hM_43 hr, zmk12_b0]
  rfl
theorem hM_ext {M : Mem} {S S' : Int → Int → Bool} {B : Int → Int} (h : ∀ r : Int, 0 ≤ r → r < 12 → ∀ c : Nat, c < 12 → S r c = S' r c) : hM M S B = hM M S' B := by
  funext k z
  unfold hM
  by_cases hk : k = 43
  · rw [if_pos hk, if_pos hk]
    by_cases hz : 0 ≤ z ∧ z < 12
    · rw [if_pos hz, if_pos hz]
      exact zmk_congr fun d hd => h z hz.1 hz.2 d hd
    · rw [if_neg hz, if_neg hz]
  · rw [if_neg hk, if_neg hk]
theorem hM_0 {M : Mem} {S : Int → Int → Bool} {r c : Int} (hr : 0 ≤ r ∧ r < 12) (hc : 0 ≤ c ∧ c < 12) (hS : ∀ r' c' : Int, 0 ≤ r' → r' < 12 → 0 ≤ c' → c' < 12 → S r' c' = decide (r' = r ∧ c' = c)) : zup (zarn M 43) 43 r (zsl 1 c) = hM M S (M 44) := by
  funext k z
  unfold zup zarn hM
  by_cases hk : k = 43
  · subst hk
    rw [if_pos rfl, if_pos rfl]
    by_cases hz : z = r
    · subst hz
      rw [if_pos ⟨rfl, rfl⟩, if_pos hr, zsl12 hc]
      refine zmk_congr fun d hd => ?_
      rw [hS z d hr.1 hr.2 (by omega) (by omega)]
      by_cases h : (d : Int) = c
      · rw [decide_eq_true h, decide_eq_true ⟨rfl, h⟩]
      · rw [decide_eq_false h, decide_eq_false (fun h' => h h'.2)]
    · rw [if_neg (fun h => hz h.2)]
      by_cases hz2 : 0 ≤ z ∧ z < 12
      · rw [if_pos hz2]
        exact (zmk12_none fun k hk => by rw [hS z k hz2.1 hz2.2 (by omega) (by omega), decide_eq_false (fun h => hz h.1)]).symm
      · rw [if_neg hz2]
  · rw [if_neg (fun h => hk h.1), if_neg hk, if_neg hk]
    by_cases h4 : k = 44
    · rw [if_pos h4, h4]
    · rw [if_neg h4]
theorem hM_n {M : Mem} {S : Int → Int → Bool} {B : Int → Int} : zarn (hM M S B) 44 = hM M S (fun _ => 0) := by
  funext k z
  unfold zarn hM
  by_cases hk : k = 44
  · subst hk
    rw [if_pos rfl, if_neg (by decide), if_pos rfl]
  · rw [if_neg hk]
    by_cases h3 : k = 43
    · rw [if_pos h3, if_pos h3]
    · rw [if_neg h3, if_neg h3, if_neg hk, if_neg hk]
section P4G
variable (t : TS) (r0 c0 : Int) (e : Nat)
noncomputable def Sb (j : Nat) (r c : Int) : Bool := decide (0 ≤ dT t r0 c0 e r c ∧ dT t r0 c0 e r c ≤ j)
noncomputable def Nb (j : Nat) (r c : Int) : Bool := decide (dT t r0 c0 e r c = (j : Int) + 1)
noncomputable def bsB (j : Nat) (r c : Int) : Nat → Bool
  | 0 => false
  | n + 1 => bsB j r c n || (inT t (r + zrow ((e * n : Nat) : Int)) (c + zcol ((e * n : Nat) : Int)) && Sb t r0 c0 e j (r + zrow ((e * n : Nat) : Int)) (c + zcol ((e * n : Nat) : Int)))
noncomputable def BR (j i : Nat) (z : Int) : Int := if 0 ≤ z ∧ z < 12 then zmk (fun c : Nat => Nb t r0 c0 e j z c && decide (tW t * z + c < i)) 12 else 0
noncomputable def gS (j : Nat) : Int := zS1 (fun k : Nat => zbz (Nb t r0 c0 e j ((k : Int) / tW t) ((k : Int) % tW t))) (tH t * tW t).toNat
noncomputable def cnS (j : Nat) : Int := zS2 t (fun r c => zbz (Sb t r0 c0 e j r c))
noncomputable def gr : Nat → Int
  | 0 => 1
  | j + 1 => gS t r0 c0 e j
noncomputable def stS (wr wc : Int) (j : Nat) : Int := if 0 ≤ dT t r0 c0 e wr wc ∧ dT t r0 c0 e wr wc < j then dT t r0 c0 e wr wc else -6
noncomputable def Bj (M : Mem) : Nat → Int → Int
  | 0 => M 44
  | j + 1 => BR t r0 c0 e j (tH t * tW t).toNat
def Smx (S S' : Int → Int → Bool) (i : Nat) (r c : Int) : Bool := if r < i then S' r c else S r c
end P4G
section P4H
variable {t : TS} {r0 c0 : Int} {e : Nat}
theorem bsB_iff {j : Nat} {r c : Int} : ∀ n : Nat, bsB t r0 c0 e j r c n = true ↔ ∃ k : Nat, k < n ∧ inT t (r + zrow ((e * k : Nat) : Int)) (c + zcol ((e * k : Nat) : Int)) = true ∧ Sb t r0 c0 e j (r + zrow ((e * k : Nat) : Int)) (c + zcol ((e * k : Nat) : Int)) = true
  | 0 => ⟨fun h => (by cases h), fun ⟨k, h, _⟩ => absurd h (Nat.not_lt_zero k)⟩
  | n + 1 => by
    show (bsB t r0 c0 e j r c n || (inT t (r + zrow ((e * n : Nat) : Int)) (c + zcol ((e * n : Nat) : Int)) && Sb t r0 c0 e j (r + zrow ((e * n : Nat) : Int)) (c + zcol ((e * n : Nat) : Int)))) = true ↔ _
    rw [Bool.or_eq_true, bsB_iff n, Bool.and_eq_true]
    constructor
    · rintro (⟨k, h1, h2⟩ | h)
      · exact ⟨k, by omega, h2⟩
      · exact ⟨n, by omega, h⟩
    · rintro ⟨k, h1, h2⟩
      by_cases hk : k = n
      · subst hk; exact Or.inr h2
      · exact Or.inl ⟨k, by omega, h2⟩
/-- a tile is new at a step: beside the set, not in it, of its kind -/
theorem grow_eq (he : e = 1 ∨ e = 2) (ht : tH t ≤ 12 ∧ tW t ≤ 12) (hi0 : inT t r0 c0 = true) (j : Nat) {r c : Int} (hi : inT t r c = true) :
    Nb t r0 c0 e j r c = (bsB t r0 c0 e j r c (8 / e) && (!Sb t r0 c0 e j r c && decide (laT t r c = laT t r0 c0))) := by
  have hb := dT_bd (e := e) ht hi0 r c
  by_cases h : dT t r0 c0 e r c = (j : Int) + 1
  · have h1 : Nb t r0 c0 e j r c = true := decide_eq_true h
    obtain ⟨k, hk, hp⟩ := dT_pred (e := e) ht hi0 (r' := r) (c' := c) (by omega)
    obtain ⟨k', hk', e1, e2⟩ := zopp he hk
    have hin := dT_in (e := e) ht hi0 (r' := r - zrow ((e * k : Nat) : Int)) (c' := c - zcol ((e * k : Nat) : Int)) (by omega)
    have h2 : bsB t r0 c0 e j r c (8 / e) = true := by
      refine (bsB_iff _).mpr ⟨k', hk', ?_, ?_⟩
      · rw [e1, e2]
        exact hin.1
      · rw [e1, e2]
        exact decide_eq_true (by show 0 ≤ dT t r0 c0 e (r - zrow ((e * k : Nat) : Int)) (c - zcol ((e * k : Nat) : Int)) ∧ dT t r0 c0 e (r - zrow ((e * k : Nat) : Int)) (c - zcol ((e * k : Nat) : Int)) ≤ j; omega)
    have h3 : Sb t r0 c0 e j r c = false := decide_eq_false (by omega)
    have h4 := (dT_in (e := e) ht hi0 (r' := r) (c' := c) (by omega)).2
    rw [h1, h2, h3, decide_eq_true h4]
    rfl
  · have h1 : Nb t r0 c0 e j r c = false := decide_eq_false h
    rw [h1]
    cases hB : bsB t r0 c0 e j r c (8 / e) with
    | false => rfl
    | true =>
      cases hS : Sb t r0 c0 e j r c with
      | true => rfl
      | false =>
        obtain ⟨k, hk, hkin, hkS⟩ := (bsB_iff _).mp hB
        have hkS := of_decide_eq_true hkS
        have hS := of_decide_eq_false hS
        refine (decide_eq_false fun hl => ?_).symm
        obtain ⟨k', hk', e1, e2⟩ := zopp he hk
        have hkl := (dT_in (e := e) ht hi0 (r' := r + zrow ((e * k : Nat) : Int)) (c' := c + zcol ((e * k : Nat) : Int)) (by omega)).2
        have hx1 : r + zrow ((e * k : Nat) : Int) + zrow ((e * k' : Nat) : Int) = r := by omega
        have hx2 : c + zcol ((e * k : Nat) : Int) + zcol ((e * k' : Nat) : Int) = c := by omega
        have hn := dT_next (e := e) ht hi0 (r' := r + zrow ((e * k : Nat) : Int)) (c' := c + zcol ((e * k : Nat) : Int)) (by omega) hk' (by rw [hx1, hx2]; exact hi) (by rw [hx1, hx2]; exact hl)
        rw [hx1, hx2] at hn
        omega
theorem Sb_s (j : Nat) (r c : Int) : Sb t r0 c0 e (j + 1) r c = (Sb t r0 c0 e j r c || Nb t r0 c0 e j r c) := by
  unfold Sb Nb
  by_cases h : dT t r0 c0 e r c = (j : Int) + 1
  · rw [decide_eq_true h, Bool.or_true]
    exact decide_eq_true (by omega)
  · rw [decide_eq_false h, Bool.or_false]
    by_cases h2 : 0 ≤ dT t r0 c0 e r c ∧ dT t r0 c0 e r c ≤ j
    · rw [decide_eq_true h2]
      exact decide_eq_true (by omega)
    · rw [decide_eq_false h2]
      exact decide_eq_false (by omega)
theorem Sb_0 (ht : tH t ≤ 12 ∧ tW t ≤ 12) (hi0 : inT t r0 c0 = true) (r c : Int) : Sb t r0 c0 e 0 r c = decide (r = r0 ∧ c = c0) := by
  have h0 := dT_0 (e := e) ht hi0
  by_cases h : r = r0 ∧ c = c0
  · rw [decide_eq_true h, h.1, h.2]
    exact decide_eq_true (by rw [h0.1]; exact ⟨Int.le_refl _, Int.le_refl _⟩)
  · rw [decide_eq_false h]
    refine decide_eq_false fun h' => h ?_
    have hne : dT t r0 c0 e r c ≠ -1 := by omega
    obtain ⟨j, hj, hq⟩ := ((zFr_q (e := e) ht hi0).1 r c).mp hne
    have hB := p4B_F (e := e) ht hi0
    rcases Nat.eq_zero_or_pos j with hz | hp
    · subst hz
      rw [h0.2.2] at hq
      exact ⟨(congrArg Prod.fst hq).symm, (congrArg Prod.snd hq).symm⟩
    · obtain ⟨a, ha, k, hk, -, -, h5⟩ := hB.1.2.1 j hp hj
      have h6 : bq (zFr t r0 c0 e) j = dT t r0 c0 e r c := by
        unfold bq dT
        rw [hq]
      have h7 : 0 ≤ bq (zFr t r0 c0 e) a := by
        have := dT_bd (e := e) ht hi0 ((zFr t r0 c0 e).2.1 a).1 ((zFr t r0 c0 e).2.1 a).2
        have h8 : dT t r0 c0 e ((zFr t r0 c0 e).2.1 a).1 ((zFr t r0 c0 e).2.1 a).2 ≠ -1 := by
          unfold dT
          exact ((zFr_q (e := e) ht hi0).1 _ _).mpr ⟨a, ha, (Prod.eta _).symm⟩
        unfold dT at this h8
        unfold bq
        omega
      have h' := h'
      rw [← h6, h5] at h'
      have : ((0 : Nat) : Int) = 0 := rfl
      omega
theorem zbz_or {a b : Bool} (h : a = false ∨ b = false) : zbz (a || b) = zbz a + zbz b := by
  cases a <;> cases b <;> first | rfl | (rcases h with h | h <;> cases h)
theorem cnS_s (hd : 0 ≤ tH t ∧ 1 ≤ tW t) (j : Nat) : cnS t r0 c0 e (j + 1) = cnS t r0 c0 e j + gS t r0 c0 e j := by
  have e1 : gS t r0 c0 e j = zS2 t (fun r c => zbz (Nb t r0 c0 e j r c)) := z2_flat t (fun r c n => n + zbz (Nb t r0 c0 e j r c)) 0 hd.1 hd.2
  rw [e1]
  unfold cnS
  rw [← zS2_add]
  refine zS2_congr fun r c _ _ _ _ => ?_
  rw [Sb_s, zbz_or]
  by_cases h : dT t r0 c0 e r c = (j : Int) + 1
  · exact Or.inl (decide_eq_false (by omega))
  · exact Or.inr (decide_eq_false h)
theorem cnS_0 (ht : tH t ≤ 12 ∧ tW t ≤ 12) (hi0 : inT t r0 c0 = true) : cnS t r0 c0 e 0 = 1 := by
  unfold cnS
  have h : zS2 t (fun r c => zbz (Sb t r0 c0 e 0 r c)) = zS2 t (fun r c => if r = r0 ∧ c = c0 then 1 else 0) := by
    refine zS2_congr fun r c _ _ _ _ => ?_
    rw [Sb_0 ht hi0]
    by_cases h : r = r0 ∧ c = c0
    · rw [decide_eq_true h, if_pos h]; rfl
    · rw [decide_eq_false h, if_neg h]; rfl
  rw [h, zS2_pt, if_pos hi0]
theorem gS_bd (j : Nat) : 0 ≤ gS t r0 c0 e j ∧ gS t r0 c0 e j ≤ 1 * ((tH t * tW t).toNat : Int) := zS1_bd (fun i => zbz_bd _) _
theorem zS1_nz {g : Nat → Int} (hg : ∀ i, 0 ≤ g i) : ∀ n : Nat, zS1 g n = 0 → ∀ i, i < n → g i = 0
  | 0, _, i, hi => absurd hi (Nat.not_lt_zero i)
  | n + 1, h, i, hi => by
    rw [zS1_s] at h
    have h1 := hg n
    have h2 : 0 ≤ zS1 g n := by
      have : ∀ m : Nat, 0 ≤ zS1 g m := fun m => by
        induction m with
        | zero => exact Int.le_refl _
        | succ m ih => rw [zS1_s]; have := hg m; omega
      exact this n
    by_cases hin : i < n
    · exact zS1_nz hg n (by omega) i hin
    · have : i = n := by omega
      rw [this]
      omega
/-- when nothing grew, all is reached -/
theorem gS_done (ht : tH t ≤ 12 ∧ tW t ≤ 12) (hd : 0 ≤ tH t ∧ 1 ≤ tW t) (hi0 : inT t r0 c0 = true) {j : Nat} (h : gS t r0 c0 e j = 0) : ∀ r c : Int, dT t r0 c0 e r c ≤ (j : Int) := by
  have hno : ∀ r c : Int, dT t r0 c0 e r c ≠ (j : Int) + 1 := by
    intro r c hrc
    have hin := (dT_in (e := e) ht hi0 (r' := r) (c' := c) (by omega)).1
    have hib := inT_bd hin
    have hpos : 0 ≤ tW t * r + c := by
      have := Int.mul_nonneg (by omega : 0 ≤ tW t) hib.1
      omega
    have hlt : tW t * r + c < tH t * tW t := by
      have h1 : tW t * r ≤ tW t * (tH t - 1) := Int.mul_le_mul_of_nonneg_left (by omega) (by omega)
      have h2 : tW t * (tH t - 1) = tH t * tW t - tW t := by rw [Int.mul_sub, Int.mul_comm, Int.mul_one]
      omega
    have hz := zS1_nz (fun i => (zbz_bd _).1) _ h (tW t * r + c).toNat (by omega)
    rw [Int.toNat_of_nonneg hpos] at hz
    have q1 : (tW t * r + c) / tW t = r := by
      rw [Int.add_comm, Int.add_mul_ediv_left _ _ (by omega : tW t ≠ 0), Int.ediv_eq_zero_of_lt (by omega) (by omega)]
      omega
    have q2 : (tW t * r + c) % tW t = c := by
      rw [Int.add_comm, Int.add_mul_emod_self_left, Int.emod_eq_of_lt (by omega) (by omega)]
    rw [q1, q2] at hz
    have : Nb t r0 c0 e j r c = true := decide_eq_true hrc
    rw [this] at hz
    exact absurd hz (by decide)
  have key : ∀ n : Nat, ∀ r c : Int, dT t r0 c0 e r c ≠ (j : Int) + 1 + n := by
    intro n
    induction n with
    | zero => intro r c h'; exact hno r c (by omega)
    | succ n ih =>
      intro r c h'
      obtain ⟨k, hk, hp⟩ := dT_pred (e := e) ht hi0 (r' := r) (c' := c) (by omega)
      exact ih _ _ (by rw [hp]; omega)
  intro r c
  refine Classical.byContradiction fun hn => ?_
  exact key (dT t r0 c0 e r c - j - 1).toNat r c (by omega)
theorem gS_late (ht : tH t ≤ 12 ∧ tW t ≤ 12) (hi0 : inT t r0 c0 = true) : gS t r0 c0 e 143 = 0 := by
  unfold gS
  rw [zS1_congr (h := fun _ => 0), zS1_zero]
  intro i _
  have := dT_bd (e := e) ht hi0 ((i : Int) / tW t) ((i : Int) % tW t)
  have h : Nb t r0 c0 e 143 ((i : Int) / tW t) ((i : Int) % tW t) = false := decide_eq_false (by omega)
  rw [h]
  rfl
theorem least_of (P : Nat → Prop) : ∀ n : Nat, P n → ∃ J : Nat, J ≤ n ∧ P J ∧ ∀ i, i < J → ¬ P i := by
  have h : ∀ n : Nat, (∃ J : Nat, J ≤ n ∧ P J ∧ ∀ i, i < J → ¬ P i) ∨ ∀ i, i ≤ n → ¬ P i := by
    intro n
    induction n with
    | zero =>
      by_cases h : P 0
      · exact Or.inl ⟨0, Nat.le_refl _, h, fun i hi => absurd hi (Nat.not_lt_zero i)⟩
      · exact Or.inr fun i hi => by rw [Nat.le_zero.mp hi]; exact h
    | succ n ih =>
      rcases ih with ⟨J, h1, h2, h3⟩ | h1
      · exact Or.inl ⟨J, by omega, h2, h3⟩
      · by_cases h : P (n + 1)
        · exact Or.inl ⟨n + 1, Nat.le_refl _, h, fun i hi => h1 i (by omega)⟩
        · refine Or.inr fun i hi => ?_
          by_cases hi2 : i = n + 1
          · rw [hi2]; exact h
          · exact h1 i (by omega)
  intro n hn
  rcases h n with h1 | h1
  · exact h1
  · exact absurd hn (h1 n (Nat.le_refl _))
theorem gr_stop (ht : tH t ≤ 12 ∧ tW t ≤ 12) (hi0 : inT t r0 c0 = true) : ∃ J : Nat, 1 ≤ J ∧ J ≤ 144 ∧ gr t r0 c0 e J = 0 ∧ ∀ i, i < J → 0 < gr t r0 c0 e i := by
  obtain ⟨J, h1, h2, h3⟩ := least_of (fun j => gr t r0 c0 e j = 0) 144 (gS_late ht hi0)
  refine ⟨J, ?_, h1, h2, fun i hi => ?_⟩
  · rcases Nat.eq_zero_or_pos J with h | h
    · rw [h] at h2
      exact absurd (show (1 : Int) = 0 from h2) (by decide)
    · exact h
  · have := h3 i hi
    have hb : 0 ≤ gr t r0 c0 e i := by
      cases i with
      | zero => exact (by decide : (0 : Int) ≤ 1)
      | succ i => exact (gS_bd i).1
    omega
theorem stS_s {wr wc : Int} (j : Nat) : stS t r0 c0 e wr wc (j + 1) = if stS t r0 c0 e wr wc j < 0 ∧ Sb t r0 c0 e j wr wc = true then (j : Int) else stS t r0 c0 e wr wc j := by
  unfold stS Sb
  by_cases h : 0 ≤ dT t r0 c0 e wr wc ∧ dT t r0 c0 e wr wc < (j : Int)
  · rw [if_pos h, if_pos (by omega : 0 ≤ dT t r0 c0 e wr wc ∧ dT t r0 c0 e wr wc < ((j + 1 : Nat) : Int)), if_neg (fun h' => by omega)]
  · rw [if_neg h]
    by_cases h2 : dT t r0 c0 e wr wc = (j : Int)
    · rw [if_pos (by omega), if_pos ⟨by omega, decide_eq_true (by omega)⟩, h2]
    · rw [if_neg (by omega), if_neg (fun h' => by have := of_decide_eq_true h'.2; omega)]
theorem stS_bd {wr wc : Int} (ht : tH t ≤ 12 ∧ tW t ≤ 12) (hi0 : inT t r0 c0 = true) (j : Nat) : -6 ≤ stS t r0 c0 e wr wc j ∧ stS t r0 c0 e wr wc j < 144 := by
  have := dT_bd (e := e) ht hi0 wr wc
  unfold stS
  split <;> omega
theorem BR_0 (j : Nat) (hw : 0 ≤ tW t) : (fun _ : Int => (0 : Int)) = BR t r0 c0 e j 0 := by
  funext z
  unfold BR
  by_cases hz : 0 ≤ z ∧ z < 12
  · rw [if_pos hz]
    refine (zmk12_none fun k hk => ?_).symm
    have := Int.mul_nonneg hw hz.1
    rw [decide_eq_false (by omega), Bool.and_false]
  · rw [if_neg hz]
/-- one tile more: the row of new ones -/
theorem BR_n {M : Mem} {S : Int → Int → Bool} {j i : Nat} {r c : Int} (ht : tH t ≤ 12 ∧ tW t ≤ 12) (hi0 : inT t r0 c0 = true) (hk : tW t * r + c = (i : Int)) (hib : 0 ≤ r ∧ r < tH t ∧ 0 ≤ c ∧ c < tW t) (h : Nb t r0 c0 e j r c = false) : hM M S (BR t r0 c0 e j i) = hM M S (BR t r0 c0 e j (i + 1)) := by
  have e1 : BR t r0 c0 e j i = BR t r0 c0 e j (i + 1) := by
    funext z
    unfold BR
    by_cases hz : 0 ≤ z ∧ z < 12
    · rw [if_pos hz, if_pos hz]
      refine zmk_congr fun d hd => ?_
      cases hN : Nb t r0 c0 e j z d with
      | false => rfl
      | true =>
        have hdi := inT_bd (dT_in (e := e) ht hi0 (r' := z) (c' := d) (by have := of_decide_eq_true hN; omega)).1
        have hne : ¬ tW t * z + (d : Int) = (i : Int) := by
          intro he
          have hzr : z = r ∧ (d : Int) = c := by
            have q1 : (tW t * z + (d : Int)) / tW t = z := by
              rw [Int.add_comm, Int.add_mul_ediv_left _ _ (by omega : tW t ≠ 0), Int.ediv_eq_zero_of_lt (by omega) (by omega)]
              omega
            have q2 : (tW t * r + c) / tW t = r := by
              rw [Int.add_comm, Int.add_mul_ediv_left _ _ (by omega : tW t ≠ 0), Int.ediv_eq_zero_of_lt (by omega) (by omega)]
              omega
            rw [he] at q1
            rw [hk] at q2
            have : z = r := q1.symm.trans q2
            subst this
            exact ⟨rfl, by omega⟩
          rw [hzr.1, hzr.2] at hN
          rw [hN] at h
          cases h
        by_cases hlt : tW t * z + (d : Int) < (i : Int)
        · rw [decide_eq_true hlt, decide_eq_true (by omega)]
        · rw [decide_eq_false hlt, decide_eq_false (by omega)]
    · rw [if_neg hz, if_neg hz]
  rw [e1]
theorem BR_y {M : Mem} {S : Int → Int → Bool} {j i : Nat} {r c : Int} (ht : tH t ≤ 12 ∧ tW t ≤ 12) (hi0 : inT t r0 c0 = true) (hk : tW t * r + c = (i : Int)) (hib : 0 ≤ r ∧ r < tH t ∧ 0 ≤ c ∧ c < tW t) (h : Nb t r0 c0 e j r c = true) : zup (hM M S (BR t r0 c0 e j i)) 44 r (zor (BR t r0 c0 e j i r) (zsl 1 c)) = hM M S (BR t r0 c0 e j (i + 1)) := by
  have hz9 : ∀ z : Int, BR t r0 c0 e j (i + 1) z = if z = r then zor (BR t r0 c0 e j i r) (zsl 1 c) else BR t r0 c0 e j i z := by
    intro z
    have q2 : (tW t * r + c) / tW t = r := by
      rw [Int.add_comm, Int.add_mul_ediv_left _ _ (by omega : tW t ≠ 0), Int.ediv_eq_zero_of_lt (by omega) (by omega)]
      omega
    rw [hk] at q2
    by_cases hzr : z = r
    · subst hzr
      rw [if_pos rfl]
      unfold BR
      rw [if_pos (by omega), if_pos (by omega), zsl12 (by omega), zmk12_or]
      refine zmk_congr fun d hd => ?_
      by_cases hdc : (d : Int) = c
      · rw [hdc, h, decide_eq_true (by omega), decide_eq_true rfl]
        cases decide (tW t * z + c < (i : Int)) <;> rfl
      · rw [decide_eq_false hdc, Bool.or_false]
        by_cases hlt : tW t * z + (d : Int) < (i : Int)
        · rw [decide_eq_true hlt, decide_eq_true (by omega)]
        · rw [decide_eq_false hlt, decide_eq_false (by omega)]
    · rw [if_neg hzr]
      unfold BR
      by_cases hz : 0 ≤ z ∧ z < 12
      · rw [if_pos hz, if_pos hz]
        refine zmk_congr fun d hd => ?_
        cases hN : Nb t r0 c0 e j z d with
        | false => rfl
        | true =>
          have hdi := inT_bd (dT_in (e := e) ht hi0 (r' := z) (c' := d) (by have := of_decide_eq_true hN; omega)).1
          have hne : ¬ tW t * z + (d : Int) = (i : Int) := by
            intro he
            have q1 : (tW t * z + (d : Int)) / tW t = z := by
              rw [Int.add_comm, Int.add_mul_ediv_left _ _ (by omega : tW t ≠ 0), Int.ediv_eq_zero_of_lt (by omega) (by omega)]
              omega
            rw [he] at q1
            exact hzr (q1.symm.trans q2)
          by_cases hlt : tW t * z + (d : Int) < (i : Int)
          · rw [decide_eq_true hlt, decide_eq_true (by omega)]
          · rw [decide_eq_false hlt, decide_eq_false (by omega)]
      · rw [if_neg hz, if_neg hz]
  funext k z
  unfold zup hM
  by_cases hk4 : k = 44
  · subst hk4
    by_cases hzr : z = r
    · rw [if_pos ⟨rfl, hzr⟩, if_neg (by decide), if_pos rfl, hz9 z, if_pos hzr]
    · rw [if_neg (fun h => hzr h.2), if_neg (by decide), if_pos rfl, if_neg (by decide), if_pos rfl, hz9 z, if_neg hzr]
  · rw [if_neg (fun h => hk4 h.1)]
    by_cases hk3 : k = 43
    · rw [if_pos hk3, if_pos hk3]
    · rw [if_neg hk3, if_neg hk3, if_neg hk4, if_neg hk4]
theorem Smx_0 {M : Mem} {B : Int → Int} {S S' : Int → Int → Bool} : hM M S B = hM M (Smx S S' 0) B := hM_ext fun r h0 _ c _ => by
  show S r c = if r < ((0 : Nat) : Int) then S' r c else S r c
  rw [if_neg (by omega)]
theorem Smx_12 {M : Mem} {B : Int → Int} {S S' : Int → Int → Bool} : hM M (Smx S S' 12) B = hM M S' B := hM_ext fun r h0 h1 c _ => by
  show (if r < ((12 : Nat) : Int) then S' r c else S r c) = S' r c
  rw [if_pos (by omega)]
theorem Smx_s {M : Mem} {S : Int → Int → Bool} {j i n : Nat} (ht : tH t ≤ 12 ∧ tW t ≤ 12) (hi0 : inT t r0 c0 = true) (hi : i < 12) (hn : (n : Int) = tH t * tW t) : zup (hM M (Smx (Sb t r0 c0 e j) (Sb t r0 c0 e (j + 1)) i) (BR t r0 c0 e j n)) 43 i (zor (hM M (Smx (Sb t r0 c0 e j) (Sb t r0 c0 e (j + 1)) i) (BR t r0 c0 e j n) 43 i) (BR t r0 c0 e j n i)) = hM M (Smx (Sb t r0 c0 e j) (Sb t r0 c0 e (j + 1)) (i + 1)) (BR t r0 c0 e j n) := by
  funext k z
  rw [hM_43 (by omega)]
  have hB : BR t r0 c0 e j n (i : Int) = zmk (fun c : Nat => Nb t r0 c0 e j i c) 12 := by
    unfold BR
    rw [if_pos (by omega)]
    refine zmk_congr fun d hd => ?_
    cases hN : Nb t r0 c0 e j i d with
    | false => rfl
    | true =>
      have hdi := inT_bd (dT_in (e := e) ht hi0 (r' := i) (c' := d) (by have := of_decide_eq_true hN; omega)).1
      have h1 : tW t * (i : Int) ≤ tW t * (tH t - 1) := Int.mul_le_mul_of_nonneg_left (by omega) (by omega)
      have h2 : tW t * (tH t - 1) = tH t * tW t - tW t := by rw [Int.mul_sub, Int.mul_comm, Int.mul_one]
      rw [decide_eq_true (by omega)]
      rfl
  rw [hB, zmk12_or]
  unfold zup
  by_cases hk : k = 43 ∧ z = (i : Int)
  · rw [if_pos hk, hk.1, hk.2, hM_43 (by omega)]
    refine zmk_congr fun d hd => ?_
    show (Smx (Sb t r0 c0 e j) (Sb t r0 c0 e (j + 1)) i i d || Nb t r0 c0 e j i d) = Smx (Sb t r0 c0 e j) (Sb t r0 c0 e (j + 1)) (i + 1) i d
    unfold Smx
    rw [if_neg (by omega), if_pos (by omega), Sb_s]
  · rw [if_neg hk]
    unfold hM
    by_cases hk3 : k = 43
    · rw [if_pos hk3, if_pos hk3]
      by_cases hz : 0 ≤ z ∧ z < 12
      · rw [if_pos hz, if_pos hz]
        refine zmk_congr fun d hd => ?_
        unfold Smx
        have : z ≠ (i : Int) := fun h => hk ⟨hk3, h⟩
        by_cases hzi : z < (i : Int)
        · rw [if_pos hzi, if_pos (by omega)]
        · rw [if_neg hzi, if_neg (by omega)]
      · rw [if_neg hz, if_neg hz]
    · rw [if_neg hk3, if_neg hk3]
theorem p4_g0 {b : Bool} {x : Int} (h : b = false) : x + zbz b = x := by rw [h]; exact Int.add_zero x
theorem p4_g1 {b : Bool} {x : Int} (h : b = true) : x + zbz b = x + 1 := by rw [h]; rfl
theorem p4_n1 {a s d : Bool} (h : a = false) : (a && (!s && d)) = false := by rw [h]; rfl
theorem p4_n2 {a s d : Bool} (h : s = true) : (a && (!s && d)) = false := by rw [h]; cases a <;> rfl
theorem p4_n3 {a s x y : Bool} (h : zbz x ≠ zbz y) : (a && (!s && decide (x = y))) = false := by
  rw [decide_eq_false (zbz_ne.mp h)]
  cases a <;> cases s <;> rfl
theorem p4_n4 {a s x y : Bool} (h1 : a = true) (h2 : s = false) (h3 : zbz x = zbz y) : (a && (!s && decide (x = y))) = true := by
  rw [h1, h2, decide_eq_true (zbz_eq.mp h3)]
  rfl
theorem bsB_k {j : Nat} {r c : Int} {n : Nat} (h : bsB t r0 c0 e j r c n = true) : bsB t r0 c0 e j r c (n + 1) = true := by
  show (bsB t r0 c0 e j r c n || _) = true
  rw [h]; rfl
theorem bsB_y {j : Nat} {r c : Int} {n : Nat} (h1 : inT t (r + zrow ((e * n : Nat) : Int)) (c + zcol ((e * n : Nat) : Int)) = true) (h2 : zbz (Sb t r0 c0 e j (r + zrow ((e * n : Nat) : Int)) (c + zcol ((e * n : Nat) : Int))) = 1) : bsB t r0 c0 e j r c (n + 1) = true := by
  show (bsB t r0 c0 e j r c n || (inT t (r + zrow ((e * n : Nat) : Int)) (c + zcol ((e * n : Nat) : Int)) && Sb t r0 c0 e j (r + zrow ((e * n : Nat) : Int)) (c + zcol ((e * n : Nat) : Int)))) = true
  rw [h1, p4_b1 h2]; cases bsB t r0 c0 e j r c n <;> rfl
theorem bsB_f1 {j : Nat} {r c : Int} {n : Nat} (h : bsB t r0 c0 e j r c n = false) (h1 : inT t (r + zrow ((e * n : Nat) : Int)) (c + zcol ((e * n : Nat) : Int)) = false) : bsB t r0 c0 e j r c (n + 1) = false := by
  show (bsB t r0 c0 e j r c n || (inT t (r + zrow ((e * n : Nat) : Int)) (c + zcol ((e * n : Nat) : Int)) && Sb t r0 c0 e j (r + zrow ((e * n : Nat) : Int)) (c + zcol ((e * n : Nat) : Int)))) = false
  rw [h, h1]; rfl
theorem bsB_f2 {j : Nat} {r c : Int} {n : Nat} (h : bsB t r0 c0 e j r c n = false) (h2 : zbz (Sb t r0 c0 e j (r + zrow ((e * n : Nat) : Int)) (c + zcol ((e * n : Nat) : Int))) ≠ 1) : bsB t r0 c0 e j r c (n + 1) = false := by
  show (bsB t r0 c0 e j r c n || (inT t (r + zrow ((e * n : Nat) : Int)) (c + zcol ((e * n : Nat) : Int)) && Sb t r0 c0 e j (r + zrow ((e * n : Nat) : Int)) (c + zcol ((e * n : Nat) : Int)))) = false
  rw [h]
  cases hz : Sb t r0 c0 e j (r + zrow ((e * n : Nat) : Int)) (c + zcol ((e * n : Nat) : Int))
  · cases inT t (r + zrow ((e * n : Nat) : Int)) (c + zcol ((e * n : Nat) : Int)) <;> rfl
  · rw [hz] at h2; exact absurd rfl h2
end P4H
