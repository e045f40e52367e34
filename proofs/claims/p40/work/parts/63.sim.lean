/-! ===== spreading again, with places that are reached already: the same as from nothing, where those are closed ===== -/
def zbSm (t : TS) (l : Bool) (V : Int → Int → Prop) (s s' : zBs) : Prop :=
  s.2.2 = s'.2.2 ∧ (∀ i : Nat, i < s'.2.2.1 → s.2.1 i = s'.2.1 i ∧ inT t (s'.2.1 i).1 (s'.2.1 i).2 = true ∧ laT t (s'.2.1 i).1 (s'.2.1 i).2 = l ∧ ¬ V (s'.2.1 i).1 (s'.2.1 i).2)
  ∧ (∀ r c : Int, inT t r c = true → (V r c → s'.1 r c = -1 ∧ s.1 r c ≠ -1) ∧ (¬ V r c → s.1 r c = s'.1 r c))
  ∧ (∀ r c : Int, s'.1 r c ≠ -1 → ∃ i : Nat, i < s'.2.2.1 ∧ s'.2.1 i = (r, c))
theorem zbSm_R {t : TS} {l : Bool} {V : Int → Int → Prop} {s s' : zBs} {r c k : Int} (h : zbSm t l V s s') (hV : inT t r c = true → ¬ V r c) (hl : laT t r c = l) : zbSm t l V (zbR t r c k s) (zbR t r c k s') := by
  obtain ⟨h1, h2, h3, h4⟩ := h
  unfold zbR
  by_cases hi : inT t r c = true
  · have e := (h3 r c hi).2 (hV hi)
    by_cases hs : s'.1 r c = -1
    · rw [if_pos ⟨hi, e.trans hs⟩, if_pos ⟨hi, hs⟩]
      have ec : s.2.2.1 = s'.2.2.1 := congrArg Prod.fst h1
      have ee : s.2.2.2 = s'.2.2.2 := congrArg Prod.snd h1
      refine ⟨?_, fun i hi2 => ?_, fun r' c' hi' => ?_, fun r' c' hn => ?_⟩
      · show (s.2.2.1 + 1, s.2.2.2 || zbEd t r c) = (s'.2.2.1 + 1, s'.2.2.2 || zbEd t r c)
        rw [ec, ee]
      · show (if i = s.2.2.1 then (r, c) else s.2.1 i) = (if i = s'.2.2.1 then (r, c) else s'.2.1 i) ∧ inT t (if i = s'.2.2.1 then (r, c) else s'.2.1 i).1 (if i = s'.2.2.1 then (r, c) else s'.2.1 i).2 = true ∧ laT t (if i = s'.2.2.1 then (r, c) else s'.2.1 i).1 (if i = s'.2.2.1 then (r, c) else s'.2.1 i).2 = l ∧ ¬ V (if i = s'.2.2.1 then (r, c) else s'.2.1 i).1 (if i = s'.2.2.1 then (r, c) else s'.2.1 i).2
        rw [ec]
        by_cases q : i = s'.2.2.1
        · rw [if_pos q, if_pos q]
          exact ⟨rfl, hi, hl, hV hi⟩
        · rw [if_neg q, if_neg q]
          have hi3 : i < s'.2.2.1 + 1 := hi2
          exact h2 i (by omega)
      · show (V r' c' → (if r' = r ∧ c' = c then k else s'.1 r' c') = -1 ∧ (if r' = r ∧ c' = c then k else s.1 r' c') ≠ -1) ∧ (¬ V r' c' → (if r' = r ∧ c' = c then k else s.1 r' c') = (if r' = r ∧ c' = c then k else s'.1 r' c'))
        by_cases q : r' = r ∧ c' = c
        · rw [if_pos q, if_pos q]
          refine ⟨fun hv => ?_, fun _ => rfl⟩
          rw [q.1, q.2] at hv
          exact absurd hv (hV hi)
        · rw [if_neg q, if_neg q]
          exact h3 r' c' hi'
      · have hn' : (if r' = r ∧ c' = c then k else s'.1 r' c') ≠ -1 := hn
        show ∃ i : Nat, i < s'.2.2.1 + 1 ∧ (if i = s'.2.2.1 then (r, c) else s'.2.1 i) = (r', c')
        by_cases q : r' = r ∧ c' = c
        · exact ⟨s'.2.2.1, Nat.lt_succ_self _, by rw [if_pos rfl, q.1, q.2]⟩
        · rw [if_neg q] at hn'
          obtain ⟨i, hi4, e4⟩ := h4 r' c' hn'
          exact ⟨i, by omega, by rw [if_neg (by omega)]; exact e4⟩
    · rw [if_neg (fun z => hs (e.symm.trans z.2)), if_neg (fun z => hs z.2)]
      exact ⟨h1, h2, h3, h4⟩
  · rw [if_neg (fun z => hi z.1), if_neg (fun z => hi z.1)]
    exact ⟨h1, h2, h3, h4⟩
/-- closed under the steps that are taken -/
def zCl (t : TS) (e : Nat) (V : Int → Int → Prop) : Prop := ∀ (r c : Int) (j : Nat), j < 8 / e → inT t r c = true → inT t (r + zrow ((e * j : Nat) : Int)) (c + zcol ((e * j : Nat) : Int)) = true → laT t (r + zrow ((e * j : Nat) : Int)) (c + zcol ((e * j : Nat) : Int)) = laT t r c → V (r + zrow ((e * j : Nat) : Int)) (c + zcol ((e * j : Nat) : Int)) → V r c
theorem zbSm_E {t : TS} {l : Bool} {V : Int → Int → Prop} {s s' : zBs} {r c k : Int} {e j : Nat} (hC : zCl t e V) (hj : j < 8 / e) (hi : inT t r c = true) (hl : laT t r c = l) (hV : ¬ V r c) (h : zbSm t l V s s') : zbSm t l V (zbE t l r c k ((e * j : Nat) : Int) s) (zbE t l r c k ((e * j : Nat) : Int) s') := by
  unfold zbE
  by_cases q : laT t (r + zrow ((e * j : Nat) : Int)) (c + zcol ((e * j : Nat) : Int)) = l
  · rw [if_pos q, if_pos q]
    exact zbSm_R h (fun hin hv => hV (hC r c j hj hi hin (q.trans hl.symm) hv)) q
  · rw [if_neg q, if_neg q]
    exact h
theorem zbSm_W {t : TS} {l : Bool} {V : Int → Int → Prop} {s s' : zBs} {e i : Nat} (hC : zCl t e V) (h : zbSm t l V s s') (hi : i < s'.2.2.1) : ∀ n : Nat, n ≤ 8 / e → zbSm t l V (zbW t l e i n s) (zbW t l e i n s')
  | 0, _ => h
  | n + 1, hn => by
    have ih := zbSm_W (e := e) hC h hi n (by omega)
    obtain ⟨q1, q2, q3, q4⟩ := h.2.1 i hi
    have ek := (h.2.2.1 _ _ q2).2 q4
    show zbSm t l V (zbE t l (s.2.1 i).1 (s.2.1 i).2 (s.1 (s.2.1 i).1 (s.2.1 i).2 + 1) ((e * n : Nat) : Int) (zbW t l e i n s)) (zbE t l (s'.2.1 i).1 (s'.2.1 i).2 (s'.1 (s'.2.1 i).1 (s'.2.1 i).2 + 1) ((e * n : Nat) : Int) (zbW t l e i n s'))
    rw [q1, ek]
    exact zbSm_E hC (by omega) q2 q3 q4 ih
theorem zbSm_G {t : TS} {l : Bool} {V : Int → Int → Prop} {s s' : zBs} {e i : Nat} (hC : zCl t e V) (h : zbSm t l V s s') : zbSm t l V (zbG t l e i s) (zbG t l e i s') := by
  have ec : s.2.2.1 = s'.2.2.1 := congrArg Prod.fst h.1
  unfold zbG
  by_cases q : i < s'.2.2.1
  · rw [if_pos q, if_pos (by omega)]
    exact zbSm_W hC h q (8 / e) (Nat.le_refl _)
  · rw [if_neg q, if_neg (by omega)]
    exact h
theorem zbSm_Y {t : TS} {l : Bool} {V : Int → Int → Prop} {s s' : zBs} {e : Nat} (hC : zCl t e V) (h : zbSm t l V s s') : ∀ n : Nat, zbSm t l V (zbY t l e n s) (zbY t l e n s')
  | 0 => h
  | n + 1 => zbSm_G hC (zbSm_Y hC h n)
/-- what is done: the neighbours of the places up to n are reached -/
def zbPr (t : TS) (l : Bool) (e : Nat) (s : zBs) (n : Nat) : Prop := ∀ i : Nat, i < n → i < s.2.2.1 → ∀ j : Nat, j < 8 / e → inT t ((s.2.1 i).1 + zrow ((e * j : Nat) : Int)) ((s.2.1 i).2 + zcol ((e * j : Nat) : Int)) = true → laT t ((s.2.1 i).1 + zrow ((e * j : Nat) : Int)) ((s.2.1 i).2 + zcol ((e * j : Nat) : Int)) = l → s.1 ((s.2.1 i).1 + zrow ((e * j : Nat) : Int)) ((s.2.1 i).2 + zcol ((e * j : Nat) : Int)) ≠ -1
theorem zbE_got {t : TS} {l : Bool} {s : zBs} {r c k d : Int} (hk : k ≠ -1) (hi : inT t (r + zrow d) (c + zcol d) = true) (hl : laT t (r + zrow d) (c + zcol d) = l) : (zbE t l r c k d s).1 (r + zrow d) (c + zcol d) ≠ -1 := by
  unfold zbE zbR
  rw [if_pos hl]
  by_cases q : s.1 (r + zrow d) (c + zcol d) = -1
  · rw [if_pos ⟨hi, q⟩]
    show (if r + zrow d = r + zrow d ∧ c + zcol d = c + zcol d then k else s.1 (r + zrow d) (c + zcol d)) ≠ -1
    rw [if_pos ⟨rfl, rfl⟩]
    exact hk
  · rw [if_neg (fun z => q z.2)]
    exact q
theorem zbW_got {t : TS} {l : Bool} {m0 : Nat} {e i : Nat} {s : zBs} (ht : tH t ≤ 12 ∧ tW t ≤ 12) (hi : i < s.2.2.1) (h : zbI t l m0 s) : ∀ n : Nat, ∀ j : Nat, j < n → inT t ((s.2.1 i).1 + zrow ((e * j : Nat) : Int)) ((s.2.1 i).2 + zcol ((e * j : Nat) : Int)) = true → laT t ((s.2.1 i).1 + zrow ((e * j : Nat) : Int)) ((s.2.1 i).2 + zcol ((e * j : Nat) : Int)) = l → (zbW t l e i n s).1 ((s.2.1 i).1 + zrow ((e * j : Nat) : Int)) ((s.2.1 i).2 + zcol ((e * j : Nat) : Int)) ≠ -1
  | 0, j, hj, _, _ => absurd hj (Nat.not_lt_zero j)
  | n + 1, j, hj, hin, hl => by
    by_cases q : j = n
    · subst q
      have g := h.2.1 i hi
      exact zbE_got (by omega) hin hl
    · have ih := zbW_got (e := e) ht hi h n j (by omega) hin hl
      show (zbE t l (s.2.1 i).1 (s.2.1 i).2 (s.1 (s.2.1 i).1 (s.2.1 i).2 + 1) ((e * n : Nat) : Int) (zbW t l e i n s)).1 _ _ ≠ -1
      have k := (zbK_E (t := t) (l := l) (s := zbW t l e i n s) (r := (s.2.1 i).1) (c := (s.2.1 i).2) (k := s.1 (s.2.1 i).1 (s.2.1 i).2 + 1) (d := ((e * n : Nat) : Int))).2.2 _ _ ih
      rw [k]
      exact ih
theorem zbY_Pr {t : TS} {l : Bool} {m0 : Nat} {e : Nat} {s : zBs} (ht : tH t ≤ 12 ∧ tW t ≤ 12) (h : zbI t l m0 s) : ∀ n : Nat, zbPr t l e (zbY t l e n s) n
  | 0 => fun i hi => absurd hi (Nat.not_lt_zero i)
  | n + 1 => by
    have ih := zbY_Pr (e := e) ht h n
    have p := (zbY_P (e := e) ht h n).1
    have k := (zbG_P (e := e) (i := n) ht p).2
    intro i hi hc j hj hin hl
    show (zbG t l e n (zbY t l e n s)).1 _ _ ≠ -1
    have eY : zbY t l e (n + 1) s = zbG t l e n (zbY t l e n s) := rfl
    rw [eY] at hc hin hl ⊢
    by_cases q : i < (zbY t l e n s).2.2.1
    · have eq := k.2.1 i q
      rw [eq] at hin hl ⊢
      by_cases z : i = n
      · subst z
        have eG : zbG t l e i (zbY t l e i s) = zbW t l e i (8 / e) (zbY t l e i s) := if_pos q
        rw [eG]
        exact zbW_got (e := e) ht q p (8 / e) j hj hin hl
      · have := ih i (by omega) q j hj hin hl
        rw [k.2.2 _ _ this]
        exact this
    · exfalso
      unfold zbG at hc
      rw [if_neg (by omega)] at hc
      exact q hc
theorem zopp1 : ∀ j : Nat, j < 8 → zrow (((j + 4) % 8 : Nat) : Int) = -zrow (j : Int) ∧ zcol (((j + 4) % 8 : Nat) : Int) = -zcol (j : Int) := by decide
theorem zopp {e j : Nat} (he : e = 1 ∨ e = 2) (hj : j < 8 / e) : ∃ j' : Nat, j' < 8 / e ∧ zrow ((e * j' : Nat) : Int) = -zrow ((e * j : Nat) : Int) ∧ zcol ((e * j' : Nat) : Int) = -zcol ((e * j : Nat) : Int) := by
  rcases he with rfl | rfl
  · have h := zopp1 j (by omega)
    refine ⟨(j + 4) % 8, by omega, ?_⟩
    rw [Nat.one_mul, Nat.one_mul]
    exact h
  · have h := zopp1 (2 * j) (by omega)
    refine ⟨(j + 2) % 4, by omega, ?_⟩
    rw [show 2 * ((j + 2) % 4) = (2 * j + 4) % 8 by omega]
    exact h
/-- what is reached, together with what was reached before, is closed again -/
theorem zbCl {t : TS} {l : Bool} {V : Int → Int → Prop} {m0 : Nat} {e : Nat} {s s' : zBs} (he : e = 1 ∨ e = 2) (ht : tH t ≤ 12 ∧ tW t ≤ 12) (hC : zCl t e V) (h : zbI t l m0 s') (hs : zbSm t l V s s') : zCl t e (fun r c => V r c ∨ (zbY t l e 144 s').1 r c ≠ -1) := by
  obtain ⟨N, n1, n2, n3, n4⟩ := zbY_N (e := e) ht h
  have hp := zbY_Pr (e := e) ht h N
  have hq := (zbSm_Y hC hs 144)
  intro r c j hj hi hin hl hv
  rcases hv with hv | hv
  · exact Or.inl (hC r c j hj hi hin hl hv)
  · obtain ⟨i, hi2, e2⟩ := hq.2.2.2 _ _ hv
    obtain ⟨-, g1, g2, -⟩ := hq.2.1 i hi2
    obtain ⟨j', k1, k2, k3⟩ := zopp he hj
    have n5 : zbY t l e 144 s' = zbY t l e N s' := n4
    rw [n5] at hv e2 hi2 g1 g2 ⊢
    rw [e2] at g1 g2
    have hh := hp i (by omega) hi2 j' k1
    rw [e2] at hh
    have x1 : r + zrow ((e * j : Nat) : Int) + zrow ((e * j' : Nat) : Int) = r := by rw [k2]; omega
    have x2 : c + zcol ((e * j : Nat) : Int) + zcol ((e * j' : Nat) : Int) = c := by rw [k3]; omega
    dsimp only at hh g2
    rw [x1, x2] at hh
    exact Or.inr (hh hi (hl.symm.trans g2))
