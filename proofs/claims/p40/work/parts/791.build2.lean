-- more rules, and the first memory of the class
section ZG2
variable {K K' : Kp} {X : CX} {pc : Nat} {lv lv' : List (Nat × Value)} {st : List Value} {ws ws' : va_W} {cs : Nat × Nat} {mc ms : Nat}
theorem g_ild (hc : zGx K mc ms X) {q : Fin 4} {x : Int32} (n : Nat) (hn : lv[n]? = some ((q : Nat), .int x)) (dg : decode K.1 pc = .ok (.iload_n q, 1)) (k : zJG X ws cs (pc + 1) lv (.int x :: st)) : zJG X ws cs pc lv st := by
  obtain ⟨p, l, e, R, s, m, args, below, meth, c, D, dA, ids, ad, A, cs0, nL, Q⟩ := X
  obtain ⟨hx, hb, -⟩ := hc
  intro H locs ls hP hD hS hv
  exact lv_iload_n hx hb dg rfl (lv_at hv n hn) (k H locs ls hP hD hS hv)
theorem g_iinc (hc : zGx K mc ms X) {q : Nat} {n x : Int} (i : Nat) (hi : lv[i]? = some (q, .int (iI x))) (hl : (q, Value.int (iI (x + n))) :: lv.filter (fun r => !(r.1 == q) && !(r.1 + 1 == q && r.2.category == 2)) = lv') (hq : q < K.2.1) (dg : decode K.1 pc = .ok (.iinc q n, 3)) (k : zJG X ws cs (pc + 3) lv' st) : zJG X ws cs pc lv st := by
  obtain ⟨p, l, e, R, s, m, args, below, meth, c, D, dA, ids, ad, A, cs0, nL, Q⟩ := X
  obtain ⟨hx, hb, -, -, -, -, -, -, -, -, -, -, -, -, hnl, -⟩ := hc
  intro H locs ls hP hD hS hv
  exact lv_iinc hx hb dg hv (k := i) (x := iI x) (v := iI (x + n)) hi (iI_add x n) (by omega) hl (fun ls' h' => k H locs ls' hP hD hS h')
theorem g_goto (hc : zGx K mc ms X) {off : Int} {tgt : Nat} (ht : (pc : Int) + off = (tgt : Int)) (dg : decode K.1 pc = .ok (.goto off, 3)) (k : zJG X ws cs tgt lv st) : zJG X ws cs pc lv st := by
  obtain ⟨p, l, e, R, s, m, args, below, meth, c, D, dA, ids, ad, A, cs0, nL, Q⟩ := X
  obtain ⟨hx, hb, -⟩ := hc
  intro H locs ls hP hD hS hv
  exact lv_goto hx hb dg ht (k H locs ls hP hD hS hv)
theorem g_cge (hc : zGx K mc ms X) {a b : Int32} {off : Int} {tgt : Nat} (ht : (pc : Int) + off = (tgt : Int)) (dg : decode K.1 pc = .ok (.if_icmp .ge off, 3)) (kt : b ≤ a → zJG X ws cs tgt lv st) (kf : ¬ b ≤ a → zJG X ws cs (pc + 3) lv st) : zJG X ws cs pc lv (.int b :: .int a :: st) := by
  obtain ⟨p, l, e, R, s, m, args, below, meth, c, D, dA, ids, ad, A, cs0, nL, Q⟩ := X
  obtain ⟨hx, hb, -⟩ := hc
  intro H locs ls hP hD hS hv
  exact lv_icmp_ge hx hb dg ht (fun h => kt h H locs ls hP hD hS hv) (fun h => kf h H locs ls hP hD hS hv)
theorem g_arr {a N : Nat} {cA : ClassId} {f g : Nat → Option Nat} (i : Nat) (hi : ws[i]? = some (a, .inl (cA, N, .inr (.inr (.inr (.inr f)))))) (hfg : ∀ j, j < N → f j = g j) (kk : zJG X (ws.set i (a, .inl (cA, N, .inr (.inr (.inr (.inr g)))))) cs pc lv st) : zJG X ws cs pc lv st := by
  obtain ⟨p, l, e, R, s, m, args, below, meth, c, D, dA, ids, ad, A, cs0, nL, Q⟩ := X
  intro H locs ls hP hD hS hv
  refine kk H locs ls (fun k q hk => ?_) (hD.set hi) hS hv
  rw [List.getElem?_set] at hk
  split at hk
  · split at hk
    · obtain rfl := Option.some.inj hk
      have h := hP i _ hi
      show H[a]? = some (arrV cA N (fun j => va_rf (g j)))
      have h : H[a]? = some (arrV cA N (fun j => va_rf (f j))) := h
      rw [h]
      unfold arrV
      congr 2
      exact congrArg Array.ofFn (funext fun j => congrArg va_rf (hfg j.1 j.2))
    · cases hk
  · exact hP k q hk
end ZG2
def zb (k0 b : Nat) (a : Nat → Nat) : Nat → Nat := fun k => cond (Nat.beq k k0) b (a k)
def zM0 : Mem := fun _ _ => 0
/-- how many masks are whole below n -/
def zcL : List Int := [0, 1, 2, 2, 2, 3, 4, 4, 5, 5, 5, 5, 5, 5, 5, 5, 5, 6, 7, 7, 7, 8, 9, 9, 10, 10, 10, 10, 10, 11, 12, 12, 13, 13, 13, 13, 13, 13, 13, 13, 13, 13, 13, 13, 13, 13, 13, 13, 13, 13, 13, 13, 13, 13, 13, 13, 13, 13, 13, 13, 13, 13, 13, 13, 13, 14, 15, 15, 15, 16, 17, 17, 18, 18, 18, 18, 18, 18, 18, 18, 18, 19, 20, 20, 20, 21, 22, 22, 23, 23, 23, 23, 23, 24, 25, 25, 26, 26, 26, 26, 26, 26, 26, 26, 26, 26, 26, 26, 26, 26, 26, 26, 26, 27, 28, 28, 28, 29, 30, 30, 31, 31, 31, 31, 31, 32, 33, 33, 34, 34, 34, 34, 34, 34, 34, 34, 34, 34, 34, 34, 34, 34, 34, 34, 34, 34, 34, 34, 34, 34, 34, 34, 34, 34, 34, 34, 34, 34, 34, 34, 34, 34, 34, 34, 34, 34, 34, 34, 34, 34, 34, 34, 34, 34, 34, 34, 34, 34, 34, 34, 34, 34, 34, 34, 34, 34, 34, 34, 34, 34, 34, 34, 34, 34, 35, 35, 35, 35, 36, 36, 37, 37, 37, 37, 37, 37, 37, 37, 37, 37, 38, 38, 38, 38, 39, 39, 40, 40, 40, 40, 40, 40, 41, 41, 42, 42, 42, 42, 42, 42, 42, 42, 42, 42, 42, 42, 42, 42, 42, 42, 42, 42, 43, 43, 43, 43, 44, 44, 45, 45, 45, 45, 45, 45, 46, 46, 47]
def zcn (n : Nat) : Int := zcL.getD n 0
def zlit : List Int := [0, 1, 4, 5, 7, 16, 17, 20, 21, 23, 28, 29, 31, 64, 65, 68, 69, 71, 80, 81, 84, 85, 87, 92, 93, 95, 112, 113, 116, 117, 119, 124, 125, 127, 193, 197, 199, 209, 213, 215, 221, 223, 241, 245, 247, 253, 255]
theorem zregs_lit : zregs = zlit := by decide +kernel
def zshl (m : Int) : Int := if m ∈ zlit then (zlit.idxOf m : Int) else -6
theorem zshl_eq (m : Int) : shZ m = zshl m := by unfold shZ zshl; rw [zregs_lit]
theorem zmkl_eq (s : Int) : mkZ s = zlit.getD s.toNat 0 := by unfold mkZ; rw [zregs_lit]
def zcok (i : Nat) : Bool := decide (0 ≤ zcn i ∧ zcn i ≤ 47) && (if rdZ (i : Int) = (i : Int) then decide (zcn i < 47 ∧ zcn (i + 1) = zcn i + 1 ∧ zshl (i : Int) = zcn i ∧ zlit.getD (zcn i).toNat 0 = (i : Int)) else decide (zcn (i + 1) = zcn i ∧ zshl (i : Int) = -6))
theorem zcn_all : ∀ i : Nat, i < 256 → zcok i = true := by decide +kernel
theorem zcn_bd {i : Nat} (h : i < 256) : 0 ≤ zcn i ∧ zcn i ≤ 47 := by
  have := zcn_all i h
  unfold zcok at this
  rw [Bool.and_eq_true] at this
  exact of_decide_eq_true this.1
theorem zcn_y {i : Nat} (h : i < 256) (hr : rdZ (i : Int) = (i : Int)) : zcn i < 47 ∧ zcn (i + 1) = zcn i + 1 ∧ shZ (i : Int) = zcn i ∧ mkZ (zcn i) = (i : Int) := by
  have := zcn_all i h
  unfold zcok at this
  rw [Bool.and_eq_true, if_pos hr] at this
  rw [zshl_eq, zmkl_eq]
  exact of_decide_eq_true this.2
theorem zcn_n {i : Nat} (h : i < 256) (hr : ¬ rdZ (i : Int) = (i : Int)) : zcn (i + 1) = zcn i ∧ shZ (i : Int) = -6 := by
  have := zcn_all i h
  unfold zcok at this
  rw [Bool.and_eq_true, if_neg hr] at this
  rw [zshl_eq]
  exact of_decide_eq_true this.2
theorem zcn_e : zcn 0 = 0 ∧ zcn 256 = 47 := by decide +kernel
/-- the tables as they are filled -/
def zTm (a b : Nat) (M : Mem) (n : Nat) : Mem := fun k z => if k = a ∧ 0 ≤ z ∧ z < zcn n then mkZ z else if k = b ∧ 0 ≤ z ∧ z < (n : Int) then shZ z else M k z
theorem zTm_0 (a b : Nat) (M : Mem) : zTm a b M 0 = M := by
  funext k z
  unfold zTm
  rw [zcn_e.1, if_neg (by omega), if_neg (by omega)]
theorem zTm_y {a b : Nat} (hab : a ≠ b) (M : Mem) {i : Nat} (h : i < 256) (hr : rdZ (i : Int) = (i : Int)) : zup (zup (zTm a b M i) a (zcn i) i) b i (zcn i) = zTm a b M (i + 1) := by
  obtain ⟨h1, h2, h3, h4⟩ := zcn_y h hr
  have h0 := (zcn_bd h).1
  clear hr
  funext k z
  unfold zup zTm
  rw [h2]
  by_cases c1 : k = b ∧ z = (i : Int)
  · rw [if_pos c1, if_neg (by omega), if_pos (by omega), c1.2, h3]
  · rw [if_neg c1]
    by_cases c2 : k = a ∧ z = zcn i
    · rw [if_pos c2, if_pos (by omega), c2.2, h4]
    · rw [if_neg c2]
      by_cases c3 : k = a ∧ 0 ≤ z ∧ z < zcn i
      · rw [if_pos c3, if_pos (by omega)]
      · rw [if_neg c3]
        by_cases c4 : k = b ∧ 0 ≤ z ∧ z < (i : Int)
        · rw [if_pos c4, if_neg (by omega), if_pos (by omega)]
        · rw [if_neg c4, if_neg (by omega), if_neg (by omega)]
theorem zTm_n {a b : Nat} (hab : a ≠ b) (M : Mem) {i : Nat} (h : i < 256) (hr : ¬ rdZ (i : Int) = (i : Int)) : zup (zTm a b M i) b i (-6) = zTm a b M (i + 1) := by
  obtain ⟨h2, h3⟩ := zcn_n h hr
  clear hr
  funext k z
  unfold zup zTm
  rw [h2]
  by_cases c1 : k = b ∧ z = (i : Int)
  · rw [if_pos c1, if_neg (by omega), if_pos (by omega), c1.2, h3]
  · rw [if_neg c1]
    by_cases c3 : k = a ∧ 0 ≤ z ∧ z < zcn i
    · rw [if_pos c3, if_pos c3]
    · rw [if_neg c3, if_neg c3]
      by_cases c4 : k = b ∧ 0 ≤ z ∧ z < (i : Int)
      · rw [if_pos c4, if_pos (by omega)]
      · rw [if_neg c4, if_neg (by omega)]
theorem zTm_r {a b : Nat} (hab : a ≠ b) (M : Mem) {i : Nat} (h : i < 256) (hr : rdZ (i : Int) = (i : Int)) : zup (zup (zup (zTm a b M i) b i (-6)) a (zcn i) i) b i (zcn i) = zTm a b M (i + 1) := by
  rw [← zTm_y hab M h hr]
  funext k z
  unfold zup
  by_cases h1 : k = b ∧ z = (i : Int)
  · rw [if_pos h1, if_pos h1]
  · rw [if_neg h1, if_neg h1, if_neg h1]
def zini8 : Int → Int := fun z => if z = 0 ∨ z = 1 then 8 else 0
def zini0 : Int → Int := fun _ => 0
def zini3 : Int → Int := fun z => z + 3
def ziniP : Int → Int := filM zM0 18 144 (-1) 18
/-- the class's memory, new -/
def zMX : Mem := fun k => cond (Nat.blt k 9) zini8 (cond (Nat.blt k 18) zini0 (cond (Nat.blt k 27) ziniP (cond (Nat.beq k 29 || Nat.beq k 30) (zTm 29 30 zM0 256 k) (cond (Nat.beq k 32) zini3 zini0))))
