/-! ===== spreading over a region, apart from any machine: steps by place (-1: none), queue, how many, whether at the edge ===== -/
abbrev zBs : Type := (Int → Int → Int) × (Nat → Int × Int) × Nat × Bool
def zbEd (t : TS) (r c : Int) : Bool := decide (r = 0 ∨ r = tH t - 1 ∨ c = 0 ∨ c = tW t - 1)
def zbR (t : TS) (r c k : Int) (s : zBs) : zBs := if inT t r c = true ∧ s.1 r c = -1 then (fun r' c' => if r' = r ∧ c' = c then k else s.1 r' c', fun n => if n = s.2.2.1 then (r, c) else s.2.1 n, s.2.2.1 + 1, s.2.2.2 || zbEd t r c) else s
def zbE (t : TS) (l : Bool) (r c k d : Int) (s : zBs) : zBs := if laT t (r + zrow d) (c + zcol d) = l then zbR t (r + zrow d) (c + zcol d) k s else s
def zbV (t : TS) (l : Bool) (e : Nat) (i : Nat) (s : zBs) : zBs := zrep (fun (j : Nat) (x : zBs) => zbE t l (s.2.1 i).1 (s.2.1 i).2 (s.1 (s.2.1 i).1 (s.2.1 i).2 + 1) ((e * j : Nat) : Int) x) (8 / e) s
def zbG (t : TS) (l : Bool) (e : Nat) (i : Nat) (s : zBs) : zBs := if i < s.2.2.1 then zbV t l e i s else s
def zbF (t : TS) (l : Bool) (e : Nat) (s : zBs) : zBs := zrep (zbG t l e) 144 s
/-- how many places are reached -/
def zbM (s : zBs) (n : Nat) : Nat := zrep (fun (k : Nat) (x : Nat) => x + (if s.1 ((k / 12 : Nat) : Int) ((k % 12 : Nat) : Int) = -1 then 0 else 1)) n 0
theorem zbM_le (s : zBs) : ∀ n : Nat, zbM s n ≤ n
  | 0 => Nat.le_refl 0
  | n + 1 => by
    have := zbM_le s n
    show zbM s n + (if _ then 0 else 1) ≤ n + 1
    split <;> omega
theorem zbM_same {s s' : zBs} {r c : Int} (h : ∀ r' c' : Int, ¬ (r' = r ∧ c' = c) → s'.1 r' c' = s.1 r' c') : ∀ n : Nat, (∀ k : Nat, k < n → ¬ (((k / 12 : Nat) : Int) = r ∧ ((k % 12 : Nat) : Int) = c)) → zbM s' n = zbM s n
  | 0, _ => rfl
  | n + 1, hk => by
    have ih := zbM_same h n (fun k hk' => hk k (by omega))
    show zbM s' n + (if _ then 0 else 1) = zbM s n + (if _ then 0 else 1)
    rw [ih, h _ _ (hk n (by omega))]
theorem zbM_add {s s' : zBs} {r c : Int} (hr : 0 ≤ r) (hc : 0 ≤ c ∧ c < 12) (h : ∀ r' c' : Int, ¬ (r' = r ∧ c' = c) → s'.1 r' c' = s.1 r' c') (h0 : s.1 r c = -1) (h1 : s'.1 r c ≠ -1) : ∀ n : Nat, 12 * r + c < n → zbM s' n = zbM s n + 1
  | 0, hn => absurd hn (by omega)
  | n + 1, hn => by
    show zbM s' n + (if _ then 0 else 1) = zbM s n + (if _ then 0 else 1) + 1
    by_cases e : 12 * r + c = n
    · have e1 : ((n / 12 : Nat) : Int) = r := by omega
      have e2 : ((n % 12 : Nat) : Int) = c := by omega
      rw [e1, e2, if_neg h1, if_pos h0, zbM_same h n (fun k hk q => by omega)]
    · rw [zbM_add hr hc h h0 h1 n (by omega), h _ _ (fun q => by omega)]
      omega
/-- what stands while it spreads: the counts, the queue's places, what is in it -/
def zbI (t : TS) (l : Bool) (m0 : Nat) (s : zBs) : Prop :=
  s.2.2.1 + m0 = zbM s 144 ∧ (∀ i : Nat, i < s.2.2.1 → inT t (s.2.1 i).1 (s.2.1 i).2 = true ∧ laT t (s.2.1 i).1 (s.2.1 i).2 = l ∧ 0 ≤ s.1 (s.2.1 i).1 (s.2.1 i).2 ∧ s.1 (s.2.1 i).1 (s.2.1 i).2 ≤ i)
  ∧ (∀ r c : Int, -1 ≤ s.1 r c ∧ s.1 r c < 144)
theorem zbI_le {t : TS} {l : Bool} {m0 : Nat} {s : zBs} (h : zbI t l m0 s) : s.2.2.1 ≤ 144 := by
  have := zbM_le s 144
  have := h.1
  omega
theorem zbI_R {t : TS} {l : Bool} {m0 : Nat} {s : zBs} {r c k : Int} (ht : tH t ≤ 12 ∧ tW t ≤ 12) (hl : laT t r c = l) (hk : 0 ≤ k ∧ k ≤ s.2.2.1) (h : zbI t l m0 s) : zbI t l m0 (zbR t r c k s) := by
  unfold zbR
  split
  · rename_i q
    obtain ⟨h1, h2, h3⟩ := h
    have hi := of_decide_eq_true q.1
    have ha := zbM_add (s := s) (s' := (fun r' c' => if r' = r ∧ c' = c then k else s.1 r' c', fun n => if n = s.2.2.1 then (r, c) else s.2.1 n, s.2.2.1 + 1, s.2.2.2 || zbEd t r c)) (r := r) (c := c) hi.1 ⟨hi.2.2.1, by omega⟩ (fun r' c' n => if_neg n) q.2 (by show (if r = r ∧ c = c then k else s.1 r c) ≠ -1; rw [if_pos ⟨rfl, rfl⟩]; omega) 144 (by omega)
    have hb := zbM_le (fun r' c' => if r' = r ∧ c' = c then k else s.1 r' c', fun n => if n = s.2.2.1 then (r, c) else s.2.1 n, s.2.2.1 + 1, s.2.2.2 || zbEd t r c) 144
    refine ⟨?_, fun i hi' => ?_, fun r' c' => ?_⟩
    · rw [ha]
      show s.2.2.1 + 1 + m0 = _
      omega
    · show inT t (if i = s.2.2.1 then (r, c) else s.2.1 i).1 (if i = s.2.2.1 then (r, c) else s.2.1 i).2 = true ∧ laT t (if i = s.2.2.1 then (r, c) else s.2.1 i).1 (if i = s.2.2.1 then (r, c) else s.2.1 i).2 = l ∧ 0 ≤ (if (if i = s.2.2.1 then (r, c) else s.2.1 i).1 = r ∧ (if i = s.2.2.1 then (r, c) else s.2.1 i).2 = c then k else s.1 (if i = s.2.2.1 then (r, c) else s.2.1 i).1 (if i = s.2.2.1 then (r, c) else s.2.1 i).2) ∧ (if (if i = s.2.2.1 then (r, c) else s.2.1 i).1 = r ∧ (if i = s.2.2.1 then (r, c) else s.2.1 i).2 = c then k else s.1 (if i = s.2.2.1 then (r, c) else s.2.1 i).1 (if i = s.2.2.1 then (r, c) else s.2.1 i).2) ≤ i
      by_cases e : i = s.2.2.1
      · rw [if_pos e]
        refine ⟨q.1, hl, ?_⟩
        rw [if_pos ⟨rfl, rfl⟩]
        omega
      · rw [if_neg e]
        have g := h2 i (by have : i < s.2.2.1 + 1 := hi'; omega)
        have ne : ¬ ((s.2.1 i).1 = r ∧ (s.2.1 i).2 = c) := fun z => by
          have := g.2.2.1
          rw [z.1, z.2, q.2] at this
          omega
        rw [if_neg ne]
        exact g
    · show -1 ≤ (if r' = r ∧ c' = c then k else s.1 r' c') ∧ (if r' = r ∧ c' = c then k else s.1 r' c') < 144
      have := h3 r' c'
      split <;> omega
  · exact h
/-- what a step leaves as it was -/
def zbK (s s' : zBs) : Prop := s.2.2.1 ≤ s'.2.2.1 ∧ (∀ i : Nat, i < s.2.2.1 → s'.2.1 i = s.2.1 i) ∧ (∀ r c : Int, s.1 r c ≠ -1 → s'.1 r c = s.1 r c)
theorem zbK_rfl {s : zBs} : zbK s s := ⟨Nat.le_refl _, fun _ _ => rfl, fun _ _ _ => rfl⟩
theorem zbK_tr {a b c : zBs} (h1 : zbK a b) (h2 : zbK b c) : zbK a c :=
  ⟨Nat.le_trans h1.1 h2.1, fun i hi => (h2.2.1 i (Nat.lt_of_lt_of_le hi h1.1)).trans (h1.2.1 i hi), fun r x hn => (h2.2.2 r x (by rw [h1.2.2 r x hn]; exact hn)).trans (h1.2.2 r x hn)⟩
theorem zbK_R {t : TS} {s : zBs} {r c k : Int} : zbK s (zbR t r c k s) := by
  unfold zbR
  split
  · rename_i q
    refine ⟨Nat.le_succ _, fun i hi => ?_, fun r' c' hn => ?_⟩
    · show (if i = s.2.2.1 then (r, c) else s.2.1 i) = s.2.1 i
      rw [if_neg (by omega)]
    · show (if r' = r ∧ c' = c then k else s.1 r' c') = s.1 r' c'
      rw [if_neg (fun z => hn (by rw [z.1, z.2]; exact q.2))]
  · exact zbK_rfl
theorem zbK_E {t : TS} {l : Bool} {s : zBs} {r c k d : Int} : zbK s (zbE t l r c k d s) := by
  unfold zbE
  split
  · exact zbK_R
  · exact zbK_rfl
theorem zbI_E {t : TS} {l : Bool} {m0 : Nat} {s : zBs} {r c k d : Int} (ht : tH t ≤ 12 ∧ tW t ≤ 12) (hk : 0 ≤ k ∧ k ≤ s.2.2.1) (h : zbI t l m0 s) : zbI t l m0 (zbE t l r c k d s) := by
  unfold zbE
  split
  · rename_i q
    exact zbI_R ht q hk h
  · exact h
/-- within the neighbours of one place -/
def zbW (t : TS) (l : Bool) (e i n : Nat) (s : zBs) : zBs := zrep (fun (j : Nat) (x : zBs) => zbE t l (s.2.1 i).1 (s.2.1 i).2 (s.1 (s.2.1 i).1 (s.2.1 i).2 + 1) ((e * j : Nat) : Int) x) n s
theorem zbW_P {t : TS} {l : Bool} {m0 : Nat} {e i : Nat} {s : zBs} (ht : tH t ≤ 12 ∧ tW t ≤ 12) (hi : i < s.2.2.1) (h : zbI t l m0 s) : ∀ n : Nat, zbI t l m0 (zbW t l e i n s) ∧ zbK s (zbW t l e i n s)
  | 0 => ⟨h, zbK_rfl⟩
  | n + 1 => by
    have ih := zbW_P (e := e) ht hi h n
    have g := h.2.1 i hi
    have := ih.2.1
    exact ⟨zbI_E (s := zbW t l e i n s) ht ⟨by omega, by omega⟩ ih.1, zbK_tr ih.2 zbK_E⟩
theorem zbG_P {t : TS} {l : Bool} {m0 : Nat} {e i : Nat} {s : zBs} (ht : tH t ≤ 12 ∧ tW t ≤ 12) (h : zbI t l m0 s) : zbI t l m0 (zbG t l e i s) ∧ zbK s (zbG t l e i s) := by
  unfold zbG
  split
  · rename_i q
    exact zbW_P ht q h (8 / e)
  · exact ⟨h, zbK_rfl⟩
def zbY (t : TS) (l : Bool) (e n : Nat) (s : zBs) : zBs := zrep (zbG t l e) n s
theorem zbY_P {t : TS} {l : Bool} {m0 : Nat} {e : Nat} {s : zBs} (ht : tH t ≤ 12 ∧ tW t ≤ 12) (h : zbI t l m0 s) : ∀ n : Nat, zbI t l m0 (zbY t l e n s) ∧ zbK s (zbY t l e n s)
  | 0 => ⟨h, zbK_rfl⟩
  | n + 1 => by
    have ih := zbY_P (e := e) ht h n
    have g := zbG_P (e := e) (i := n) ht ih.1
    exact ⟨g.1, zbK_tr ih.2 g.2⟩
/-- there is a number of turns after which the queue is done -/
theorem zbY_N {t : TS} {l : Bool} {m0 : Nat} {e : Nat} {s : zBs} (ht : tH t ≤ 12 ∧ tW t ≤ 12) (h : zbI t l m0 s) : ∃ N : Nat, N ≤ 144 ∧ (∀ i, i < N → i < (zbY t l e i s).2.2.1) ∧ (zbY t l e N s).2.2.1 ≤ N ∧ zbF t l e s = zbY t l e N s := by
  have key : ∀ n : Nat, (∀ i, i < n → i < (zbY t l e i s).2.2.1) ∨ ∃ N : Nat, N < n ∧ (∀ i, i < N → i < (zbY t l e i s).2.2.1) ∧ (zbY t l e N s).2.2.1 ≤ N := by
    intro n
    induction n with
    | zero => exact Or.inl (fun i hi => absurd hi (Nat.not_lt_zero i))
    | succ n ih =>
      rcases ih with ih | ⟨N, h1, h2, h3⟩
      · by_cases q : n < (zbY t l e n s).2.2.1
        · refine Or.inl (fun i hi => ?_)
          by_cases z : i = n
          · rw [z]; exact q
          · exact ih i (by omega)
        · exact Or.inr ⟨n, Nat.lt_succ_self n, ih, by omega⟩
      · exact Or.inr ⟨N, by omega, h2, h3⟩
  have stay : ∀ N : Nat, (zbY t l e N s).2.2.1 ≤ N → ∀ q : Nat, zbY t l e (N + q) s = zbY t l e N s := by
    intro N hN q
    induction q with
    | zero => rfl
    | succ q ih =>
      show zbG t l e (N + q) (zbY t l e (N + q) s) = _
      rw [ih]
      exact if_neg (by omega)
  rcases key 144 with k | ⟨N, h1, h2, h3⟩
  · have := zbI_le (zbY_P (e := e) ht h 144).1
    exact ⟨144, Nat.le_refl _, k, this, rfl⟩
  · refine ⟨N, by omega, h2, h3, ?_⟩
    have := stay N h3 (144 - N)
    rw [show N + (144 - N) = 144 by omega] at this
    exact this
