/-! ===== what the stores do to the maps ===== -/
theorem zrep_inv {α : Type} {f : Nat → α → α} {P : α → Prop} {a : α} (h0 : P a) : ∀ n, (∀ i, i < n → ∀ x, P x → P (f i x)) → P (zrep f n a)
  | 0, _ => h0
  | n + 1, h => h n (Nat.lt_succ_self n) _ (zrep_inv h0 n (fun i hi => h i (Nat.lt_succ_of_lt hi)))
theorem ts_ext {t t' : TS} (h1 : tH t = tH t') (h2 : tW t = tW t') (h3 : tO t = tO t') (h4 : ∀ r c : Int, t.2.2.2.1 r c = t'.2.2.2.1 r c) (h5 : ∀ r c : Int, t.2.2.2.2 r c = t'.2.2.2.2 r c) : t = t' := by
  obtain ⟨a, b, c, d, e⟩ := t
  obtain ⟨a', b', c', d', e'⟩ := t'
  have h4' : d = d' := funext fun r => funext fun c => h4 r c
  have h5' : e = e' := funext fun r => funext fun c => h5 r c
  simp only [tH, tW, tO] at h1 h2 h3
  subst h1 h2 h3 h4' h5'
  rfl
def tsW (h w : Int) (o : Bool) : TS := (h, w, o, fun _ _ => false, fun _ _ => -1)
def tsS (t : TS) (r c : Int) (b : Bool) : TS := if inT t r c = true ∧ laT t r c ≠ b then (tH t, tW t, tO t, fun r' c' => if r' = r ∧ c' = c then b else t.2.2.2.1 r' c', fun r' c' => if r' = r ∧ c' = c then -1 else t.2.2.2.2 r' c') else t
def tsP (t : TS) (r c s : Int) : TS := if inT t r c then (tH t, tW t, tO t, t.2.2.2.1, fun r' c' => if r' = r ∧ c' = c then s else t.2.2.2.2 r' c') else t
def tsO (t : TS) (b : Bool) : TS := (tH t, tW t, b, t.2.2.2.1, t.2.2.2.2)
theorem watM_off {M : Mem} {k i : Nat} {h w n : Int} (h1 : i ≠ k) (h2 : i ≠ k + 9) (h3 : i ≠ k + 18) : watM M k h w n i = M i := by
  funext z
  simp [watM, h1, h2, h3]
theorem copM_offf {M : Mem} {k j i : Nat} {n : Int} (h1 : i ≠ k) (h2 : i ≠ k + 9) (h3 : i ≠ k + 18) : copM M k j n i = M i := funext fun _ => copM_off h1 h2 h3
theorem putK_off {M : Mem} {k i : Nat} {r c : Int} {b : Bool} (h2 : i ≠ k + 9) (h3 : i ≠ k + 18) : putK M k r c b i = M i := by
  unfold putK
  split
  · rw [zup_ne h3, zup_ne h2]
  · rfl
theorem putP_off {M : Mem} {k i : Nat} {r c s : Int} (h3 : i ≠ k + 18) : putP M k r c s i = M i := by
  unfold putP
  split
  · rw [zup_ne h3]
  · rfl
theorem zSk_watM {M : Mem} {k : Nat} {h w : Int} (hh : 1 ≤ h ∧ h ≤ 12) (hw : 1 ≤ w ∧ w ≤ 12) (ho : M k 2 = 0 ∨ M k 2 = 1) : zSk (watM M k h w 144) k := by
  have e0 : watM M k h w 144 k 0 = h := by simp [watM]
  have e1 : watM M k h w 144 k 1 = w := by simp [watM]
  have e2 : watM M k h w 144 k 2 = M k 2 := by simp [watM]
  refine ⟨by omega, by omega, by omega, by omega, by omega, fun i h0 h1 => Or.inl ?_, fun i h0 h1 => ?_⟩
  · simp only [watM]
    grind
  · have : watM M k h w 144 (k + 18) i = -1 := by
      simp only [watM]
      grind
    omega
theorem copM_k {M : Mem} {k j : Nat} {z : Int} (hz : 0 ≤ z ∧ z < 3) : copM M k j 144 k z = M j z := by
  simp only [copM]
  grind
theorem copM_la {M : Mem} {k j : Nat} {z : Int} (hz : 0 ≤ z ∧ z < 144) : copM M k j 144 (k + 9) z = M (j + 9) z := by
  simp only [copM]
  grind
theorem copM_pi {M : Mem} {k j : Nat} {z : Int} (hz : 0 ≤ z ∧ z < 144) : copM M k j 144 (k + 18) z = M (j + 18) z := by
  simp only [copM]
  grind
theorem zSk_copM {M : Mem} {k j : Nat} (h : zSk M j) : zSk (copM M k j 144) k := by
  obtain ⟨h1, h2, h3, h4, h5, h6, h7⟩ := h
  refine ⟨by rw [copM_k (by omega)]; exact h1, by rw [copM_k (by omega)]; exact h2, by rw [copM_k (by omega)]; exact h3, by rw [copM_k (by omega)]; exact h4, by rw [copM_k (by omega)]; exact h5, fun i h0 h8 => ?_, fun i h0 h8 => ?_⟩
  · rw [copM_la ⟨h0, h8⟩]; exact h6 i h0 h8
  · rw [copM_pi ⟨h0, h8⟩]; exact h7 i h0 h8
theorem tsX_copM {M : Mem} {k j : Nat} (h : zSk M j) : tsX (copM M k j 144) k = tsX M j := by
  obtain ⟨h1, h2, h3, h4, h5, h6, h7⟩ := h
  have e0 : copM M k j 144 k 0 = M j 0 := copM_k (by omega)
  have e1 : copM M k j 144 k 1 = M j 1 := copM_k (by omega)
  have e2 : copM M k j 144 k 2 = M j 2 := copM_k (by omega)
  refine ts_ext e0 e1 (by show decide _ = decide _; rw [e2]) (fun r c => ?_) (fun r c => ?_)
  · show (decide _ && decide _) = (decide _ && decide _)
    rw [e0, e1]
    by_cases hr : 0 ≤ r ∧ r < M j 0 ∧ 0 ≤ c ∧ c < M j 1
    · rw [copM_la (by omega)]
    · rw [decide_eq_false hr, Bool.false_and, Bool.false_and]
  · show (if _ then _ else _) = (if _ then _ else _)
    rw [e0, e1]
    by_cases hr : 0 ≤ r ∧ r < M j 0 ∧ 0 ≤ c ∧ c < M j 1
    · rw [if_pos hr, if_pos hr, copM_pi (by omega)]
    · rw [if_neg hr, if_neg hr]
theorem tsX_congr {M M' : Mem} {k : Nat} (h1 : M' k = M k) (h2 : M' (k + 9) = M (k + 9)) (h3 : M' (k + 18) = M (k + 18)) : tsX M' k = tsX M k := by
  unfold tsX
  rw [h1, h2, h3]
theorem tsX_watM {M : Mem} {k : Nat} {h w : Int} (hh : 1 ≤ h ∧ h ≤ 12) (hw : 1 ≤ w ∧ w ≤ 12) : tsX (watM M k h w 144) k = tsW h w (decide (M k 2 = 1)) := by
  have e0 : watM M k h w 144 k 0 = h := by simp [watM]
  have e1 : watM M k h w 144 k 1 = w := by simp [watM]
  have e2 : watM M k h w 144 k 2 = M k 2 := by simp [watM]
  refine ts_ext e0 e1 (by show decide _ = decide _; rw [e2]) (fun r c => ?_) (fun r c => ?_)
  · show (decide _ && decide _) = false
    rw [e0, e1]
    by_cases hr : 0 ≤ r ∧ r < h ∧ 0 ≤ c ∧ c < w
    · have : watM M k h w 144 (k + 9) (r * 12 + c) = 0 := by
        simp only [watM]
        grind
      rw [this]
      simp
    · rw [decide_eq_false hr, Bool.false_and]
  · show (if _ then _ else _) = -1
    rw [e0, e1]
    by_cases hr : 0 ≤ r ∧ r < h ∧ 0 ≤ c ∧ c < w
    · rw [if_pos hr]
      simp only [watM]
      grind
    · rw [if_neg hr]
theorem zSk_putK {M : Mem} {k : Nat} {r c : Int} {b : Bool} (h : zSk M k) : zSk (putK M k r c b) k := by
  obtain ⟨h1, h2, h3, h4, h5, h6, h7⟩ := h
  unfold putK
  split
  · refine ⟨by rw [zup_ne (by omega), zup_ne (by omega)]; exact h1, by rw [zup_ne (by omega), zup_ne (by omega)]; exact h2, by rw [zup_ne (by omega), zup_ne (by omega)]; exact h3, by rw [zup_ne (by omega), zup_ne (by omega)]; exact h4, by rw [zup_ne (by omega), zup_ne (by omega)]; exact h5, fun i h0 h8 => ?_, fun i h0 h8 => ?_⟩
    · rw [zup_ne (by omega)]
      by_cases e : i = r * 12 + c
      · subst e; rw [zup_at]; cases b
        · exact Or.inl rfl
        · exact Or.inr rfl
      · rw [zup_off e]; exact h6 i h0 h8
    · by_cases e : i = r * 12 + c
      · subst e; rw [zup_at]; omega
      · rw [zup_off e, zup_ne (by omega)]; exact h7 i h0 h8
  · exact ⟨h1, h2, h3, h4, h5, h6, h7⟩
theorem zSk_putP {M : Mem} {k : Nat} {r c s : Int} (hs : -1 ≤ s ∧ s < 47) (h : zSk M k) : zSk (putP M k r c s) k := by
  obtain ⟨h1, h2, h3, h4, h5, h6, h7⟩ := h
  unfold putP
  split
  · refine ⟨by rw [zup_ne (by omega)]; exact h1, by rw [zup_ne (by omega)]; exact h2, by rw [zup_ne (by omega)]; exact h3, by rw [zup_ne (by omega)]; exact h4, by rw [zup_ne (by omega)]; exact h5, fun i h0 h8 => ?_, fun i h0 h8 => ?_⟩
    · rw [zup_ne (by omega)]
      exact h6 i h0 h8
    · by_cases e : i = r * 12 + c
      · subst e; rw [zup_at]; omega
      · rw [zup_off e]; exact h7 i h0 h8
  · exact ⟨h1, h2, h3, h4, h5, h6, h7⟩
theorem tsX_putK {M : Mem} {k : Nat} {r c : Int} {b : Bool} (h : zSk M k) : tsX (putK M k r c b) k = tsS (tsX M k) r c b := by
  obtain ⟨h1, h2, h3, h4, h5, h6, h7⟩ := h
  unfold putK tsS
  by_cases hc : inT (tsX M k) r c = true ∧ laT (tsX M k) r c ≠ b
  · rw [if_pos hc, if_pos hc]
    have hi := hc.1
    rw [inT_X] at hi
    have hi := of_decide_eq_true hi
    have e0 : (zup (zup M (k + 9) (r * 12 + c) (zbz b)) (k + 18) (r * 12 + c) (-1)) k = M k := by rw [zup_ne (by omega), zup_ne (by omega)]
    refine ts_ext (congrFun e0 0) (congrFun e0 1) (by show decide _ = decide _; rw [e0]) (fun r' c' => ?_) (fun r' c' => ?_)
    · show (decide _ && decide _) = (if r' = r ∧ c' = c then b else (decide _ && decide _))
      rw [e0, zup_ne (by omega)]
      by_cases hr : 0 ≤ r' ∧ r' < M k 0 ∧ 0 ≤ c' ∧ c' < M k 1
      · rw [decide_eq_true hr, Bool.true_and, Bool.true_and]
        by_cases e : r' = r ∧ c' = c
        · rw [if_pos e, e.1, e.2, zup_at]
          cases b <;> rfl
        · rw [if_neg e, zup_off (by omega)]
      · rw [decide_eq_false hr, Bool.false_and, Bool.false_and, if_neg (by omega)]
    · show (if _ then _ else _) = (if r' = r ∧ c' = c then -1 else (if _ then _ else _))
      rw [e0]
      by_cases hr : 0 ≤ r' ∧ r' < M k 0 ∧ 0 ≤ c' ∧ c' < M k 1
      · rw [if_pos hr, if_pos hr]
        by_cases e : r' = r ∧ c' = c
        · rw [if_pos e, e.1, e.2, zup_at]
        · rw [if_neg e, zup_off (by omega), zup_ne (by omega)]
      · rw [if_neg hr, if_neg hr]
        split <;> rfl
  · rw [if_neg hc, if_neg hc]
theorem tsX_putP {M : Mem} {k : Nat} {r c s : Int} (h : zSk M k) : tsX (putP M k r c s) k = tsP (tsX M k) r c s := by
  obtain ⟨h1, h2, h3, h4, h5, h6, h7⟩ := h
  unfold putP tsP
  by_cases hc : inT (tsX M k) r c = true
  · rw [if_pos hc, if_pos hc]
    have hi := hc
    rw [inT_X] at hi
    have hi := of_decide_eq_true hi
    have e0 : (zup M (k + 18) (r * 12 + c) s) k = M k := zup_ne (by omega)
    refine ts_ext (congrFun e0 0) (congrFun e0 1) (by show decide _ = decide _; rw [e0]) (fun r' c' => ?_) (fun r' c' => ?_)
    · show (decide _ && decide _) = (decide _ && decide _)
      rw [e0, zup_ne (by omega)]
    · show (if _ then _ else _) = (if r' = r ∧ c' = c then s else (if _ then _ else _))
      rw [e0]
      by_cases hr : 0 ≤ r' ∧ r' < M k 0 ∧ 0 ≤ c' ∧ c' < M k 1
      · rw [if_pos hr, if_pos hr]
        by_cases e : r' = r ∧ c' = c
        · rw [if_pos e, e.1, e.2, zup_at]
        · rw [if_neg e, zup_off (by omega)]
      · rw [if_neg hr, if_neg hr, if_neg (by omega)]
  · rw [if_neg hc, if_neg hc]
/-- the cells that a record leaves -/
theorem recM_off {M : Mem} (h : HsX M) {k : Nat} (h1 : k ≠ 31) (h2 : k ≠ 32) (h3 : k < 3 ∨ (8 ≤ k ∧ k < 12) ∨ (17 ≤ k ∧ k < 21) ∨ 26 ≤ k) : recM M k = M k := by
  obtain ⟨⟨g1, g2, g3, g4⟩, g5⟩ := recA_H h
  have gj := g3 (recA M 31 1) g1 g5
  unfold recM
  rw [zup_ne h1, copM_offf (by omega) (by omega) (by omega), recA_off h1 h2]
theorem recM_S {M : Mem} (h : HsX M) (hS : ∀ k : Nat, k < 9 → zSk M k) : ∀ k : Nat, k < 9 → zSk (recM M) k := by
  obtain ⟨⟨g1, g2, g3, g4⟩, g5⟩ := recA_H h
  have gj := g3 (recA M 31 1) g1 g5
  have hA : ∀ k : Nat, k < 9 → zSk (recA M) k := fun k hk => zSk_congr (recA_off (by omega) (by omega)) (recA_off (by omega) (by omega)) (recA_off (by omega) (by omega)) (hS k hk)
  intro k hk
  unfold recM
  refine zSk_congr (zup_ne (by omega)) (zup_ne (by omega)) (zup_ne (by omega)) ?_
  by_cases e : k = (recA M 32 (recA M 31 1)).toNat
  · rw [← e]
    exact zSk_copM (hA 0 (by omega))
  · exact zSk_congr (copM_offf (by omega) (by omega) (by omega)) (copM_offf (by omega) (by omega) (by omega)) (copM_offf (by omega) (by omega) (by omega)) (hA k hk)
theorem recM_H {M : Mem} (h : HsX M) : HsX (recM M) := by
  obtain ⟨⟨g1, g2, g3, g4⟩, g5⟩ := recA_H h
  have gj := g3 (recA M 31 1) g1 g5
  have e1 : recM M 31 1 = recA M 31 1 + 1 := zup_at _ _ _ _
  have e2 : recM M 32 = recA M 32 := by
    unfold recM
    rw [zup_ne (by decide), copM_offf (by omega) (by omega) (by omega)]
  unfold HsX
  rw [e1, e2]
  exact ⟨by omega, by omega, g3, g4⟩
theorem recM_XI {M : Mem} (h : XI M) : XI (recM M) := by
  obtain ⟨h1, h2, h3⟩ := h
  refine ⟨⟨fun s a b => ?_, fun m a b => ?_⟩, recM_S h3 h2, recM_H h3⟩
  · rw [recM_off h3 (by decide) (by decide) (by omega)]; exact h1.1 s a b
  · rw [recM_off h3 (by decide) (by decide) (by omega)]; exact h1.2 m a b
theorem recM_ts {M : Mem} (h : XI M) : tsX (recM M) 0 = tsX M 0 :=
  tsX_congr (recM_off h.2.2 (by decide) (by decide) (by omega)) (recM_off h.2.2 (by decide) (by decide) (by omega)) (recM_off h.2.2 (by decide) (by decide) (by omega))
