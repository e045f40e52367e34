/-! ===== p40: what spread tells ===== -/
noncomputable def Rb (t : TS) (r0 c0 : Int) (e : Nat) (r c : Int) : Bool := decide (dT t r0 c0 e r c ≠ -1)
def enB (h w : Int) (S : Int → Int → Bool) : Nat → Bool
  | 0 => decide (zmk (fun c : Nat => S 0 c) 12 ≠ 0) || decide (zmk (fun c : Nat => S (h - 1) c) 12 ≠ 0)
  | i + 1 => enB h w S i || (S (h - 1 - (i : Int)) 0 || S (h - 1 - (i : Int)) (w - 1))
theorem en_1 {h w : Int} {S : Int → Int → Bool} (ha : zmk (fun c : Nat => S 0 c) 12 ≠ 0) : zbz (enB h w S 0) = 1 := by
  show zbz (decide _ || decide _) = 1
  rw [decide_eq_true ha]; rfl
theorem en_2 {h w : Int} {S : Int → Int → Bool} (ha : zmk (fun c : Nat => S (h - 1) c) 12 ≠ 0) : zbz (enB h w S 0) = 1 := by
  show zbz (decide _ || decide _) = 1
  rw [decide_eq_true ha, Bool.or_true]; rfl
theorem en_3 {h w : Int} {S : Int → Int → Bool} (ha : zmk (fun c : Nat => S 0 c) 12 = 0) (hb : zmk (fun c : Nat => S (h - 1) c) 12 = 0) : zbz (enB h w S 0) = 0 := by
  show zbz (decide _ || decide _) = 0
  rw [decide_eq_false (fun h => h ha), decide_eq_false (fun h => h hb)]; rfl
theorem zor_b3 : ∀ a b c : Bool, zor (zbz a) (zor (zbz b) (zbz c)) = zbz (a || (b || c)) := by decide
def foI (h w : Int) (S : Int → Int → Bool) (i j : Nat) (y : Int) : Int := if S (h - 1 - (i : Int)) (w - 1 - (j : Int)) = true then 100 * (h - 1 - (i : Int)) + (w - 1 - (j : Int)) else y
def foO (h w : Int) (S : Int → Int → Bool) (i : Nat) (x : Int) : Int := zrep (foI h w S i) w.toNat x
noncomputable def fsT (t : TS) (r0 c0 : Int) (e : Nat) : Int := zrep (foO (tH t) (tW t) (Rb t r0 c0 e)) (tH t).toNat (-1)
noncomputable def spR (t : TS) (r0 c0 : Int) (e : Nat) (wr wc : Int) : Int := if wr = r0 ∧ wc = c0 then 10000 * (((zFr t r0 c0 e).2.2.1 : Nat) : Int) + 2 * fsT t r0 c0 e + zbz (zFr t r0 c0 e).2.2.2 else if dT t r0 c0 e wr wc ≠ -1 then dT t r0 c0 e wr wc else -6
theorem foI_P {h w : Int} {S : Int → Int → Bool} {i : Nat} (x : Int) : ∀ j : Nat, (j : Int) ≤ w →
    (∃ c : Int, w - j ≤ c ∧ c < w ∧ S (h - 1 - (i : Int)) c = true ∧ zrep (foI h w S i) j x = 100 * (h - 1 - (i : Int)) + c ∧ ∀ c' : Int, w - j ≤ c' → c' < w → S (h - 1 - (i : Int)) c' = true → c ≤ c') ∨ ((∀ c' : Int, w - j ≤ c' → c' < w → S (h - 1 - (i : Int)) c' = false) ∧ zrep (foI h w S i) j x = x)
  | 0, _ => Or.inr ⟨fun c' h1 h2 => by omega, rfl⟩
  | j + 1, hj => by
    have ih := foI_P (h := h) (w := w) (S := S) (i := i) x j (by omega)
    show (∃ c : Int, _ ∧ _ ∧ _ ∧ (if S (h - 1 - (i : Int)) (w - 1 - (j : Int)) = true then 100 * (h - 1 - (i : Int)) + (w - 1 - (j : Int)) else zrep (foI h w S i) j x) = _ ∧ _) ∨ (_ ∧ (if S (h - 1 - (i : Int)) (w - 1 - (j : Int)) = true then 100 * (h - 1 - (i : Int)) + (w - 1 - (j : Int)) else zrep (foI h w S i) j x) = x)
    by_cases hS : S (h - 1 - (i : Int)) (w - 1 - (j : Int)) = true
    · rw [if_pos hS]
      exact Or.inl ⟨w - 1 - j, by omega, by omega, hS, rfl, fun c' h1 h2 _ => by omega⟩
    · rw [if_neg hS]
      have hS' : S (h - 1 - (i : Int)) (w - 1 - (j : Int)) = false := by
        cases hb : S (h - 1 - (i : Int)) (w - 1 - (j : Int))
        · rfl
        · exact absurd hb hS
      rcases ih with ⟨c, h1, h2, h3, h4, h5⟩ | ⟨h1, h2⟩
      · refine Or.inl ⟨c, by omega, h2, h3, h4, fun c' a b hc => ?_⟩
        by_cases hcw : c' = w - 1 - j
        · subst hcw
          rw [hS'] at hc
          cases hc
        · exact h5 c' (by omega) b hc
      · refine Or.inr ⟨fun c' a b => ?_, h2⟩
        by_cases hcw : c' = w - 1 - j
        · rw [hcw]; exact hS'
        · exact h1 c' (by omega) b
theorem foO_P {h w : Int} {S : Int → Int → Bool} (hw : 0 ≤ w) : ∀ i : Nat, (i : Int) ≤ h →
    (∃ r c : Int, h - i ≤ r ∧ r < h ∧ 0 ≤ c ∧ c < w ∧ S r c = true ∧ zrep (foO h w S) i (-1) = 100 * r + c ∧ ∀ r' c' : Int, h - i ≤ r' → r' < h → 0 ≤ c' → c' < w → S r' c' = true → r < r' ∨ (r = r' ∧ c ≤ c')) ∨ ((∀ r' c' : Int, h - i ≤ r' → r' < h → 0 ≤ c' → c' < w → S r' c' = false) ∧ zrep (foO h w S) i (-1) = -1)
  | 0, _ => Or.inr ⟨fun r' c' h1 h2 => by omega, rfl⟩
  | i + 1, hi => by
    have ih := foO_P (h := h) (S := S) hw i (by omega)
    have hI := foI_P (h := h) (w := w) (S := S) (i := i) (zrep (foO h w S) i (-1)) w.toNat (by omega)
    rw [show w - ((w.toNat : Nat) : Int) = 0 by omega] at hI
    show (∃ r c : Int, _ ∧ _ ∧ _ ∧ _ ∧ _ ∧ zrep (foI h w S i) w.toNat (zrep (foO h w S) i (-1)) = _ ∧ _) ∨ (_ ∧ zrep (foI h w S i) w.toNat (zrep (foO h w S) i (-1)) = -1)
    rcases hI with ⟨c, h1, h2, h3, h4, h5⟩ | ⟨h1, h2⟩
    · refine Or.inl ⟨h - 1 - i, c, by omega, by omega, h1, h2, h3, h4, fun r' c' a b p q hS => ?_⟩
      by_cases hr : r' = h - 1 - i
      · subst hr
        exact Or.inr ⟨rfl, h5 c' p q hS⟩
      · exact Or.inl (by omega)
    · rw [h2]
      rcases ih with ⟨r, c, g1, g2, g3, g4, g5, g6, g7⟩ | ⟨g1, g2⟩
      · refine Or.inl ⟨r, c, by omega, g2, g3, g4, g5, g6, fun r' c' a b p q hS => ?_⟩
        by_cases hr : r' = h - 1 - i
        · subst hr
          rw [h1 c' p q] at hS
          cases hS
        · exact g7 r' c' (by omega) b p q hS
      · refine Or.inr ⟨fun r' c' a b p q => ?_, g2⟩
        by_cases hr : r' = h - 1 - i
        · subst hr
          exact h1 c' p q
        · exact g1 r' c' (by omega) b p q
section P4T
variable {t : TS} {r0 c0 : Int} {e : Nat}
/-- the first tile of a region -/
theorem fsT_P (hO : TOk t) (hi0 : inT t r0 c0 = true) : ∃ r c : Int, inT t r c = true ∧ dT t r0 c0 e r c ≠ -1 ∧ fsT t r0 c0 e = 100 * r + c ∧ ∀ r' c' : Int, dT t r0 c0 e r' c' ≠ -1 → r < r' ∨ (r = r' ∧ c ≤ c') := by
  obtain ⟨h1, h2, h3, h4, -⟩ := hO
  have ht : tH t ≤ 12 ∧ tW t ≤ 12 := ⟨h2, h4⟩
  have h := foO_P (h := tH t) (w := tW t) (S := Rb t r0 c0 e) (by omega) (tH t).toNat (by omega)
  rw [show tH t - (((tH t).toNat : Nat) : Int) = 0 by omega] at h
  have hib := inT_bd hi0
  have h0 := dT_0 (e := e) ht hi0
  rcases h with ⟨r, c, g1, g2, g3, g4, g5, g6, g7⟩ | ⟨g1, -⟩
  · refine ⟨r, c, inT_of ⟨g1, g2, g3, g4⟩, of_decide_eq_true g5, g6, fun r' c' hd => ?_⟩
    have hb := inT_bd (dT_in (e := e) ht hi0 hd).1
    exact g7 r' c' hb.1 hb.2.1 hb.2.2.1 hb.2.2.2 (decide_eq_true hd)
  · have := g1 r0 c0 hib.1 hib.2.1 hib.2.2.1 hib.2.2.2
    have h5 : Rb t r0 c0 e r0 c0 = true := decide_eq_true (by rw [h0.1]; decide)
    rw [h5] at this
    cases this
theorem Sb_all (ht : tH t ≤ 12 ∧ tW t ≤ 12) (hd : 0 ≤ tH t ∧ 1 ≤ tW t) (hi0 : inT t r0 c0 = true) {J : Nat} (hJ : 1 ≤ J) (hg : gr t r0 c0 e J = 0) : Sb t r0 c0 e J = Rb t r0 c0 e ∧ ∀ r c : Int, dT t r0 c0 e r c < (J : Int) := by
  obtain ⟨j, rfl⟩ : ∃ j, J = j + 1 := ⟨J - 1, by omega⟩
  have h := gS_done (e := e) ht hd hi0 (j := j) hg
  refine ⟨?_, fun r c => by have := h r c; omega⟩
  funext r c
  have h1 := h r c
  have h2 := dT_bd (e := e) ht hi0 r c
  unfold Sb Rb
  by_cases hr : dT t r0 c0 e r c = -1
  · rw [decide_eq_false (by omega), decide_eq_false (fun h => h hr)]
  · rw [decide_eq_true (by omega), decide_eq_true hr]
theorem cnS_all (hO : TOk t) (hi0 : inT t r0 c0 = true) {J : Nat} (hJ : 1 ≤ J) (hg : gr t r0 c0 e J = 0) : cnS t r0 c0 e J = (((zFr t r0 c0 e).2.2.1 : Nat) : Int) := by
  obtain ⟨h1, h2, h3, h4, -⟩ := hO
  have ht : tH t ≤ 12 ∧ tW t ≤ 12 := ⟨h2, h4⟩
  have hq := zFr_q (e := e) ht hi0
  rw [hq.2.2, zbM_grid (t := t) ⟨by omega, h2, by omega, h4⟩ (fun r c hrc => (hq.2.1 r c hrc).1)]
  unfold cnS
  rw [(Sb_all (e := e) ht ⟨by omega, h3⟩ hi0 hJ hg).1]
  refine zS2_congr fun r c _ _ _ _ => ?_
  unfold Rb dT
  by_cases h : (zFr t r0 c0 e).1 r c = -1
  · rw [if_pos h, decide_eq_false (fun h' => h' h)]; rfl
  · rw [if_neg h, decide_eq_true h]; rfl
theorem enB_iff {h w : Int} {S : Int → Int → Bool} : ∀ i : Nat, enB h w S i = true ↔ (∃ c : Nat, c < 12 ∧ (S 0 c = true ∨ S (h - 1) c = true)) ∨ ∃ k : Nat, k < i ∧ (S (h - 1 - (k : Int)) 0 = true ∨ S (h - 1 - (k : Int)) (w - 1) = true)
  | 0 => by
    show (decide _ || decide _) = true ↔ _
    rw [Bool.or_eq_true, decide_eq_true_eq, decide_eq_true_eq, zmk12_ne, zmk12_ne]
    constructor
    · rintro (⟨k, h1, h2⟩ | ⟨k, h1, h2⟩)
      · exact Or.inl ⟨k, h1, Or.inl h2⟩
      · exact Or.inl ⟨k, h1, Or.inr h2⟩
    · rintro (⟨k, h1, h2 | h2⟩ | ⟨k, h1, -⟩)
      · exact Or.inl ⟨k, h1, h2⟩
      · exact Or.inr ⟨k, h1, h2⟩
      · exact absurd h1 (Nat.not_lt_zero k)
  | i + 1 => by
    show (enB h w S i || (S (h - 1 - (i : Int)) 0 || S (h - 1 - (i : Int)) (w - 1))) = true ↔ _
    rw [Bool.or_eq_true, Bool.or_eq_true, enB_iff i]
    constructor
    · rintro ((h1 | ⟨k, h1, h2⟩) | h1)
      · exact Or.inl h1
      · exact Or.inr ⟨k, by omega, h2⟩
      · exact Or.inr ⟨i, by omega, h1⟩
    · rintro (h1 | ⟨k, h1, h2⟩)
      · exact Or.inl (Or.inl h1)
      · by_cases hk : k = i
        · subst hk; exact Or.inr h2
        · exact Or.inl (Or.inr ⟨k, by omega, h2⟩)
theorem enB_ed (hO : TOk t) (hi0 : inT t r0 c0 = true) : enB (tH t) (tW t) (Rb t r0 c0 e) (tH t).toNat = (zFr t r0 c0 e).2.2.2 := by
  obtain ⟨h1, h2, h3, h4, -⟩ := hO
  have ht : tH t ≤ 12 ∧ tW t ≤ 12 := ⟨h2, h4⟩
  have key : enB (tH t) (tW t) (Rb t r0 c0 e) (tH t).toNat = true ↔ (zFr t r0 c0 e).2.2.2 = true := by
    rw [enB_iff, dT_edge ht hi0]
    constructor
    · rintro (⟨c, hc, h | h⟩ | ⟨k, hk, h | h⟩)
      · exact ⟨_, _, of_decide_eq_true h, decide_eq_true (Or.inl rfl)⟩
      · exact ⟨_, _, of_decide_eq_true h, decide_eq_true (Or.inr (Or.inl rfl))⟩
      · exact ⟨_, _, of_decide_eq_true h, decide_eq_true (Or.inr (Or.inr (Or.inl rfl)))⟩
      · exact ⟨_, _, of_decide_eq_true h, decide_eq_true (Or.inr (Or.inr (Or.inr rfl)))⟩
    · rintro ⟨r, c, hd, he⟩
      have hb := inT_bd (dT_in (e := e) ht hi0 hd).1
      have hd' : Rb t r0 c0 e r c = true := decide_eq_true hd
      have he := of_decide_eq_true he
      rcases he with he | he | he | he
      · refine Or.inl ⟨c.toNat, by omega, Or.inl ?_⟩
        rw [Int.toNat_of_nonneg hb.2.2.1, ← he]
        exact hd'
      · refine Or.inl ⟨c.toNat, by omega, Or.inr ?_⟩
        rw [Int.toNat_of_nonneg hb.2.2.1, ← he]
        exact hd'
      · refine Or.inr ⟨(tH t - 1 - r).toNat, by omega, Or.inl ?_⟩
        rw [show tH t - 1 - (((tH t - 1 - r).toNat : Nat) : Int) = r by omega, ← he]
        exact hd'
      · refine Or.inr ⟨(tH t - 1 - r).toNat, by omega, Or.inr ?_⟩
        rw [show tH t - 1 - (((tH t - 1 - r).toNat : Nat) : Int) = r by omega, ← he]
        exact hd'
  cases hx : enB (tH t) (tW t) (Rb t r0 c0 e) (tH t).toNat <;> cases hy : (zFr t r0 c0 e).2.2.2
  · rfl
  · rw [hx, hy] at key; exact absurd (key.mpr rfl) (by decide)
  · rw [hx, hy] at key; exact absurd (key.mp rfl) (by decide)
  · rfl
theorem spR_1 {wr wc h w : Int} (hO : TOk t) (hi0 : inT t r0 c0 = true) {J : Nat} (hJ : 1 ≤ J) (hg : gr t r0 c0 e J = 0) (eh : h = tH t) (ew : w = tW t) (hw : wr = r0 ∧ wc = c0) : 10000 * cnS t r0 c0 e J + 2 * zrep (foO h w (Sb t r0 c0 e J)) h.toNat (-1) + zbz (enB h w (Sb t r0 c0 e J) h.toNat) = spR t r0 c0 e wr wc := by
  subst eh ew
  have hO' := hO
  obtain ⟨h1, h2, h3, h4, -⟩ := hO'
  unfold spR
  rw [if_pos hw, cnS_all hO hi0 hJ hg, (Sb_all (e := e) ⟨h2, h4⟩ ⟨by omega, h3⟩ hi0 hJ hg).1, enB_ed hO hi0]
  rfl
theorem spR_2 {wr wc : Int} (hO : TOk t) (hi0 : inT t r0 c0 = true) {J : Nat} (hJ : 1 ≤ J) (hg : gr t r0 c0 e J = 0) (hw : ¬ (wr = r0 ∧ wc = c0)) : stS t r0 c0 e wr wc J = spR t r0 c0 e wr wc := by
  obtain ⟨h1, h2, h3, h4, -⟩ := hO
  have h := (Sb_all (e := e) ⟨h2, h4⟩ ⟨by omega, h3⟩ hi0 hJ hg).2 wr wc
  have hb := dT_bd (e := e) ⟨h2, h4⟩ hi0 wr wc
  unfold spR stS
  rw [if_neg hw]
  by_cases hd : dT t r0 c0 e wr wc = -1
  · rw [if_neg (by omega), if_neg (fun h => h hd)]
  · rw [if_pos (by omega), if_pos hd]
end P4T
