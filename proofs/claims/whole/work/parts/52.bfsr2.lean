/-! ===== the reference's calls that go over regions ===== -/
theorem frM_oke {M : Mem} {k : Int} {l : Bool} {e : Nat} (n : Nat) (hZ : zRf (M 39)) (hk : 0 ≤ k ∧ k < M 39 0 * M 39 1) (hl : decide (M 39 (3 + k) = 1) = l) : srI l 0 M (frM M k l e n) := by
  subst hl
  exact (frM_P (e := e) hZ hk n).1
theorem frM_ok {M : Mem} {k : Int} {l : Bool} {e : Nat} (hZ : zRf (M 39)) (hk : 0 ≤ k ∧ k < M 39 0 * M 39 1) (hl : decide (M 39 (3 + k) = 1) = l) : srI l 0 M (frM M k l e 144) := frM_oke 144 hZ hk hl
theorem ct_X6_fr (M : Mem) (hZ : zRf (M 39)) (k : Int) (hk : 0 ≤ k ∧ k < M 39 0 * M 39 1) (b : Bool) : zCt yX6_findRegion KX6_findRegion [zR 38, zI k, zI (zbz b)] M (fun zv zM => zv = none ∧ zM = (frM M k (decide (M 39 (3 + k) = 1)) (if b then 1 else 2) 144)) :=
  ct_X6_findRegion M hZ k hk b (if b then 1 else 2) (by cases b <;> simp)
theorem ct_X6_frt (M : Mem) (hZ : zRf (M 39)) (k : Int) (hk : 0 ≤ k ∧ k < M 39 0 * M 39 1) : zCt yX6_findRegion KX6_findRegion [zR 38, zI k, zI 1] M (fun zv zM => zv = none ∧ zM = (frM M k (decide (M 39 (3 + k) = 1)) 1 144)) := ct_X6_findRegion M hZ k hk true 1 (Or.inl ⟨rfl, rfl⟩)
theorem ct_X6_frf (M : Mem) (hZ : zRf (M 39)) (k : Int) (hk : 0 ≤ k ∧ k < M 39 0 * M 39 1) : zCt yX6_findRegion KX6_findRegion [zR 38, zI k, zI 0] M (fun zv zM => zv = none ∧ zM = (frM M k (decide (M 39 (3 + k) = 1)) 2 144)) := ct_X6_findRegion M hZ k hk false 2 (Or.inr ⟨rfl, rfl⟩)
/-- a queue that is in order -/
def frQ (M : Mem) : Prop := 0 ≤ M 38 12 ∧ M 38 12 ≤ 144 ∧ ∀ i : Int, 0 ≤ i → i < M 38 12 → 0 ≤ M 46 i ∧ M 46 i < M 39 0 * M 39 1
theorem frQ_of {l : Bool} {m0 : Nat} {M0 M : Mem} (h : srI l m0 M0 M) : frQ M := ⟨h.2.1, srI_le h, fun i a b => by rw [srI_39 h]; exact h.2.2.2.2.1 i a b⟩
theorem sfM_51 {M : Mem} (hv : ∀ z : Int, 0 ≤ z → z < 144 → M 51 z = 0 ∨ M 51 z = 1) : ∀ n : Nat, ∀ z : Int, 0 ≤ z → z < 144 → sfM M n 51 z = 0 ∨ sfM M n 51 z = 1
  | 0, z, a, b => hv z a b
  | n + 1, z, a, b => by
    show zup (sfM M n) 51 (M 46 n) (zbz true) 51 z = 0 ∨ zup (sfM M n) 51 (M 46 n) (zbz true) 51 z = 1
    by_cases e : z = M 46 n
    · rw [e, zup_at]; exact Or.inr rfl
    · rw [zup_off e]; exact sfM_51 hv n z a b
/-- what stands while the reference goes over regions -/
def srP (M0 M : Mem) : Prop := (∀ k : Nat, k ≠ 38 → k ≠ 46 → k ≠ 47 → k ≠ 51 → M k = M0 k) ∧ (∀ z : Int, z ≠ 12 → M 38 z = M0 38 z) ∧ (∀ z : Int, 0 ≤ z → z < 144 → M 51 z = 0 ∨ M 51 z = 1)
theorem srP_39 {M0 M : Mem} (h : srP M0 M) : M 39 = M0 39 := h.1 39 (by decide) (by decide) (by decide) (by decide)
def seR (M : Mem) (k : Int) (l : Bool) (e n : Nat) : Mem := sfM (frM M k l e n) ((frM M k l e n) 38 12).toNat
theorem seR_n {M0 M : Mem} {k : Int} {l : Bool} {e : Nat} (n : Nat) (hZ : zRf (M0 39)) (h : srP M0 M) (hk : 0 ≤ k ∧ k < M 39 0 * M 39 1) (hl : decide (M 39 (3 + k) = 1) = l) : srP M0 (seR M k l e n) := by
  have f := frM_oke (e := e) n (by rw [srP_39 h]; exact hZ) hk hl
  refine ⟨fun j a b c d => (sfM_off d _).trans ((f.2.2.1 j a b c).trans (h.1 j a b c d)), fun z hz => (congrFun (sfM_off (by decide) _) z).trans ((f.2.2.2.1 z hz).trans (h.2.1 z hz)), sfM_51 (fun z a b => ?_) _⟩
  rw [f.2.2.1 51 (by decide) (by decide) (by decide)]
  exact h.2.2 z a b
theorem seR_P {M0 M : Mem} {k : Int} {l : Bool} {e : Nat} (hZ : zRf (M0 39)) (h : srP M0 M) (hk : 0 ≤ k ∧ k < M 39 0 * M 39 1) (hl : decide (M 39 (3 + k) = 1) = l) : srP M0 (seR M k l e 144) := seR_n 144 hZ h hk hl
def rgR (l : Bool) (e : Nat) (g : Int → Int → Int → Int → Int × Int → Int × Int) (k : Nat) (q : Mem × (Int × Int)) : Mem × (Int × Int) := if (decide (q.1 39 (3 + (k : Int)) = 1) = l ∧ q.1 51 k = 0) then (seR q.1 k l e 144, g ((k : Int) / q.1 39 1) ((k : Int) % q.1 39 1) (frM q.1 k l e 144 38 12) (zbz (!iiM (frM q.1 k l e 144) (frM q.1 k l e 144 38 12).toNat)) q.2) else q
theorem rgR_y {l : Bool} {e : Nat} {g : Int → Int → Int → Int → Int × Int → Int × Int} {k : Nat} {q : Mem × (Int × Int)} (h1 : decide (q.1 39 (3 + (k : Int)) = 1) = l) (h2 : q.1 51 k = 0) : rgR l e g k q = (seR q.1 k l e 144, g ((k : Int) / q.1 39 1) ((k : Int) % q.1 39 1) (frM q.1 k l e 144 38 12) (zbz (!iiM (frM q.1 k l e 144) (frM q.1 k l e 144 38 12).toNat)) q.2) := if_pos ⟨h1, h2⟩
theorem rgR_n1 {l : Bool} {e : Nat} {g : Int → Int → Int → Int → Int × Int → Int × Int} {k : Nat} {q : Mem × (Int × Int)} (h1 : decide (q.1 39 (3 + (k : Int)) = 1) = !l) : rgR l e g k q = q := if_neg (fun h => by rw [h1] at h; cases l <;> simp at h)
theorem rgR_n2 {l : Bool} {e : Nat} {g : Int → Int → Int → Int → Int × Int → Int × Int} {k : Nat} {q : Mem × (Int × Int)} (h2 : q.1 51 k ≠ 0) : rgR l e g k q = q := if_neg (fun h => h2 h.2)
theorem rgR_P {l : Bool} {e : Nat} {g : Int → Int → Int → Int → Int × Int → Int × Int} {k : Nat} {q : Mem × (Int × Int)} {M0 : Mem} (hZ : zRf (M0 39)) (hk : (k : Int) < M0 39 0 * M0 39 1) (h : srP M0 q.1) : srP M0 (rgR l e g k q).1 := by
  unfold rgR
  split
  · rename_i hc
    dsimp only
    exact seR_P (e := e) hZ h (by rw [srP_39 h]; omega) hc.1
  · exact h
theorem rgR_Q {l : Bool} {e : Nat} {k : Nat} {q : Mem × (Int × Int)} {M0 : Mem} (hZ : zRf (M0 39)) (hk : (k : Int) < M0 39 0 * M0 39 1) (h : srP M0 q.1) (hq : rgQ q) : rgQ (rgR l e gLg k q) := by
  unfold rgR
  split
  · rename_i hc
    have f := frM_ok (e := e) (M := q.1) (k := k) (l := l) (by rw [srP_39 h]; exact hZ) (by rw [srP_39 h]; omega) hc.1
    have f2 := srI_le f
    have f3 := f.2.1
    obtain ⟨q1, q2⟩ := hq
    unfold rgQ gLg
    dsimp only
    split
    · dsimp only; exact ⟨f3, f2⟩
    · exact ⟨q1, q2⟩
  · exact hq
theorem rgRs_P {l : Bool} {e : Nat} {g : Int → Int → Int → Int → Int × Int → Int × Int} {q : Mem × (Int × Int)} {M0 : Mem} (hZ : zRf (M0 39)) (h : srP M0 q.1) {n : Nat} (hn : n ≤ (M0 39 0 * M0 39 1).toNat) : srP M0 (zrep (rgR l e g) n q).1 := zrep_P (P := fun q : Mem × (Int × Int) => srP M0 q.1) h (N := (M0 39 0 * M0 39 1).toNat) (fun i hi x hx => rgR_P hZ (by omega) hx) hn
theorem rgRs_Q {l : Bool} {e : Nat} {q : Mem × (Int × Int)} {M0 : Mem} (hZ : zRf (M0 39)) (h : srP M0 q.1 ∧ rgQ q) {n : Nat} (hn : n ≤ (M0 39 0 * M0 39 1).toNat) : srP M0 (zrep (rgR l e gLg) n q).1 ∧ rgQ (zrep (rgR l e gLg) n q) := zrep_P (P := fun q : Mem × (Int × Int) => srP M0 q.1 ∧ rgQ q) h (N := (M0 39 0 * M0 39 1).toNat) (fun i hi x hx => ⟨rgR_P hZ (by omega) hx.1, rgR_Q hZ (by omega) hx.1 hx.2⟩) hn
def snM (M : Mem) : Mem := filM M 51 144 (zbz false)
theorem snM_off {M : Mem} {k : Nat} (h : k ≠ 51) : snM M k = M k := by
  funext z
  simp [snM, filM, h]
theorem snM_51 {M : Mem} {z : Int} (h : 0 ≤ z ∧ z < 144) : snM M 51 z = 0 := by
  simp only [snM, filM]
  rw [if_pos ⟨trivial, h⟩]
  rfl
theorem snM_P {M : Mem} : srP (snM M) (snM M) := ⟨fun _ _ _ _ _ => rfl, fun _ _ => rfl, fun z a b => Or.inl (snM_51 ⟨a, b⟩)⟩
/-- the tiles of the queue become land or water -/
def ffR (F : Mem) (b : Bool) (i : Nat) (q : Mem × Int) : Mem × Int := (becR q.1 (F 46 i) b, if (decide (q.1 39 (3 + F 46 i) = 1) != b) = true then q.2 + 1 else q.2)
theorem ffR_t {F : Mem} {b : Bool} {i : Nat} {q : Mem × Int} (hc : (decide (q.1 39 (3 + F 46 i) = 1) != b) = true) : ffR F b i q = (becR q.1 (F 46 i) b, q.2 + 1) := by
  unfold ffR
  rw [if_pos hc]
theorem ffR_f {F : Mem} {b : Bool} {i : Nat} {q : Mem × Int} (hc : (decide (q.1 39 (3 + F 46 i) = 1) != b) = false) : ffR F b i q = (becR q.1 (F 46 i) b, q.2) := by
  unfold ffR
  rw [if_neg (by rw [hc]; decide)]
theorem ffR_P {F : Mem} {b : Bool} (hZ : zRf (F 39)) (hF : frQ F) {n : Nat} (hn : n ≤ (F 38 12).toNat) : brP F (zrep (ffR F b) n (F, 0)) := by
  obtain ⟨a1, a2, a3, a4, -⟩ := id hZ
  have hw := zhw a1 a2 a3 a4
  exact zrep_P (P := brP F) (a := ((F, 0) : Mem × Int)) ⟨hZ, fun _ _ => rfl, rfl, rfl⟩ (N := (F 38 12).toNat) (fun i hi x hx => brP_bec (by have := hF.2.2 i (by omega) (by omega); omega) hx) hn
theorem iiM_sf {M : Mem} (m : Nat) : ∀ n : Nat, iiM (sfM M m) n = iiM M n := by
  intro n
  unfold iiM
  rw [sfM_off (by decide), sfM_off (by decide)]
/-- whether a place is inside, as isInside asks -/
theorem zbEd_no {f : Int → Int} {r c : Int} (hr : 0 ≤ r ∧ r < f 0) (hc : 0 ≤ c ∧ c < f 1) (h1 : 1 ≤ r ∧ r ≤ f 0 - 2) (h2 : 1 ≤ c ∧ c ≤ f 1 - 2) : zbEd (tsZ f) r c = false := decide_eq_false (by show ¬ (r = 0 ∨ r = f 0 - 1 ∨ c = 0 ∨ c = f 1 - 1); omega)
theorem zbEd_y {f : Int → Int} {r c : Int} (hr : 0 ≤ r ∧ r < f 0) (hc : 0 ≤ c ∧ c < f 1) (h : ¬ (1 ≤ r ∧ r ≤ f 0 - 2) ∨ ¬ (1 ≤ c ∧ c ≤ f 1 - 2)) : zbEd (tsZ f) r c = true := decide_eq_true (by show (r = 0 ∨ r = f 0 - 1 ∨ c = 0 ∨ c = f 1 - 1); omega)
