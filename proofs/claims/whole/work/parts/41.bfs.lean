/-! ===== spreading over a region, apart from any machine: steps by place (-1: none), queue, how many, whether at the edge ===== -/
abbrev zBs : Type := (Int → Int → Int) × (Nat → Int × Int) × Nat × Bool
def zbEd (t : TS) (r c : Int) : Bool := decide (r = 0 ∨ r = tH t - 1 ∨ c = 0 ∨ c = tW t - 1)
def zbR (t : TS) (r c k : Int) (s : zBs) : zBs := if inT t r c = true ∧ s.1 r c = -1 then (fun r' c' => if r' = r ∧ c' = c then k else s.1 r' c', fun n => if n = s.2.2.1 then (r, c) else s.2.1 n, s.2.2.1 + 1, s.2.2.2 || zbEd t r c) else s
def zbE (t : TS) (l : Bool) (r c k d : Int) (s : zBs) : zBs := if laT t (r + zrow d) (c + zcol d) = l then zbR t (r + zrow d) (c + zcol d) k s else s
def zbV (t : TS) (l : Bool) (e : Nat) (i : Nat) (s : zBs) : zBs := zrep (fun (j : Nat) (x : zBs) => zbE t l (s.2.1 i).1 (s.2.1 i).2 (s.1 (s.2.1 i).1 (s.2.1 i).2 + 1) ((e * j : Nat) : Int) x) (8 / e) s
def zbG (t : TS) (l : Bool) (e : Nat) (i : Nat) (s : zBs) : zBs := if i < s.2.2.1 then zbV t l e i s else s
def zbF (t : TS) (l : Bool) (e : Nat) (s : zBs) : zBs := zrep (zbG t l e) 144 s
/-- how many places are reached -/
def zbM (s : zBs) (n : Nat) : Nat := zrep (fun (k : Nat) (x : Nat) => x + (if s.1 ((k / 12 : Nat) : Int) ((k % 12 : Nat) : Int) = -1 then 0 else 1)) n 0
theorem zbM_le (s : zBs) : ∀ n : Nat, zbM s n ≤ n
  | 0 => Nat.le_refl 0
  | n + 1 => by
    have := zbM_le s n
    show zbM s n + (if _ then 0 else 1) ≤ n + 1
    split <;> omega
theorem zbM_same {s s' : zBs} {r c : Int} (h : ∀ r' c' : Int, ¬ (r' = r ∧ c' = c) → s'.1 r' c' = s.1 r' c') : ∀ n : Nat, (∀ k : Nat, k < n → ¬ (((k / 12 : Nat) : Int) = r ∧ ((k % 12 : Nat) : Int) = c)) → zbM s' n = zbM s n
  | 0, _ => rfl
  | n + 1, hk => by
    have ih := zbM_same h n (fun k hk' => hk k (by omega))
    show zbM s' n + (if _ then 0 else 1) = zbM s n + (if _ then 0 else 1)
    rw [ih, h _ _ (hk n (by omega))]
theorem zbM_add {s s' : zBs} {r c : Int} (hr : 0 ≤ r) (hc : 0 ≤ c ∧ c < 12) (h : ∀ r' c' : Int, ¬ (r' = r ∧ c' = c) → s'.1 r' c' = s.1 r' c') (h0 : s.1 r c = -1) (h1 : s'.1 r c ≠ -1) : ∀ n : Nat, 12 * r + c < n → zbM s' n = zbM s n + 1
  | 0, hn => absurd hn (by omega)
  | n + 1, hn => by
    show zbM s' n + (if _ then 0 else 1) = zbM s n + (if _ then 0 else 1) + 1
    by_cases e : 12 * r + c = n
    · have e1 : ((n / 12 : Nat) : Int) = r := by omega
      have e2 : ((n % 12 : Nat) : Int) = c := by omega
      rw [e1, e2, if_neg h1, if_pos h0, zbM_same h n (fun k hk q => by omega)]
    · rw [zbM_add hr hc h h0 h1 n (by omega), h _ _ (fun q => by omega)]
      omega
/-- what stands while it spreads: the counts, the queue's places, what is in it -/
def zbI (t : TS) (l : Bool) (m0 : Nat) (s : zBs) : Prop :=
  s.2.2.1 + m0 = zbM s 144 ∧ (∀ i : Nat, i < s.2.2.1 → inT t (s.2.1 i).1 (s.2.1 i).2 = true ∧ laT t (s.2.1 i).1 (s.2.1 i).2 = l ∧ 0 ≤ s.1 (s.2.1 i).1 (s.2.1 i).2)
  ∧ (∀ r c : Int, -1 ≤ s.1 r c ∧ s.1 r c < 144)
theorem zbI_R {t : TS} {l : Bool} {m0 : Nat} {s : zBs} {r c k : Int} (ht : tH t ≤ 12 ∧ tW t ≤ 12) (hl : laT t r c = l) (hk : 0 ≤ k ∧ k < 144) (h : zbI t l m0 s) : zbI t l m0 (zbR t r c k s) := by
  unfold zbR
  split
  · rename_i q
    obtain ⟨h1, h2, h3⟩ := h
    have hi := of_decide_eq_true q.1
    refine ⟨?_, fun i hi' => ?_, fun r' c' => ?_⟩
    · rw [zbM_add (s := s) (r := r) (c := c) hi.1 ⟨hi.2.2.1, by omega⟩ (fun r' c' n => if_neg n) q.2 (by show (if r = r ∧ c = c then k else s.1 r c) ≠ -1; rw [if_pos ⟨rfl, rfl⟩]; omega) 144 (by omega)]
      show s.2.2.1 + 1 + m0 = _
      omega
    · show inT t (if i = s.2.2.1 then (r, c) else s.2.1 i).1 (if i = s.2.2.1 then (r, c) else s.2.1 i).2 = true ∧ laT t (if i = s.2.2.1 then (r, c) else s.2.1 i).1 (if i = s.2.2.1 then (r, c) else s.2.1 i).2 = l ∧ 0 ≤ (if (if i = s.2.2.1 then (r, c) else s.2.1 i).1 = r ∧ (if i = s.2.2.1 then (r, c) else s.2.1 i).2 = c then k else s.1 (if i = s.2.2.1 then (r, c) else s.2.1 i).1 (if i = s.2.2.1 then (r, c) else s.2.1 i).2)
      by_cases e : i = s.2.2.1
      · rw [if_pos e]
        exact ⟨q.1, hl, by rw [if_pos ⟨rfl, rfl⟩]; omega⟩
      · rw [if_neg e]
        have := h2 i (by have : i < s.2.2.1 + 1 := hi'; omega)
        exact ⟨this.1, this.2.1, by split <;> omega⟩
    · show -1 ≤ (if r' = r ∧ c' = c then k else s.1 r' c') ∧ (if r' = r ∧ c' = c then k else s.1 r' c') < 144
      have := h3 r' c'
      split <;> omega
  · exact h
