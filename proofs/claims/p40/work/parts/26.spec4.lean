/-! ===== what the changing calls do to the cells ===== -/
def roA (t : TS) : Int := z2 t (fun r c n => n + zbz (irT t r c (obT t r c))) 0
def rbT (t : TS) (r c : Int) : Int := zrep (fun (d : Nat) (n : Int) => if (inT t (r + zrow d) (c + zcol d) && irT t (r + zrow d) (c + zcol d) (rtZ (zsl 1 d) 4)) = true then n + 1 else n) 8 0
theorem sq_bd {x : Int} (h : -5 ≤ x ∧ x ≤ 5) : 0 ≤ x * x ∧ x * x ≤ 25 := by
  obtain ⟨h1, h2⟩ := h
  constructor
  · exact (by
      rcases Int.le_total 0 x with h | h
      · exact Int.mul_nonneg h h
      · have := Int.mul_nonneg (a := -x) (b := -x) (by omega) (by omega)
        rwa [Int.neg_mul_neg] at this)
  · rcases Int.le_total 0 x with h | h
    · have := Int.mul_le_mul h2 h2 h (by omega)
      omega
    · have := Int.mul_le_mul (a := -x) (b := -x) (c := 5) (d := 5) (by omega) (by omega) (by omega) (by omega)
      rw [Int.neg_mul_neg] at this
      omega
def chX (M : Mem) (r c : Int) (b : Bool) : Bool := inT (tsX M 0) r c && (laT (tsX M 0) r c != b)
def brI (r c k : Int) (b : Bool) (i : Int) (j : Nat) (q : Mem × Int) : Mem × Int := if (i - k) * (i - k) + ((j : Int) - k) * ((j : Int) - k) ≤ k * k then (putK q.1 0 (r + (i - k)) (c + ((j : Int) - k)) b, if chX q.1 (r + (i - k)) (c + ((j : Int) - k)) b then q.2 + 1 else q.2) else q
def brO (r c k : Int) (b : Bool) (i : Nat) (q : Mem × Int) : Mem × Int := zrep (brI r c k b i) (2 * k + 1).toNat q
theorem brI_S {r c k : Int} {b : Bool} {i : Int} {j : Nat} {q : Mem × Int} (h : zSk q.1 0) : zSk (brI r c k b i j q).1 0 := by
  unfold brI
  split
  · exact zSk_putK h
  · exact h
theorem brO_S {r c k : Int} {b : Bool} {i : Nat} {q : Mem × Int} (h : zSk q.1 0) : zSk (brO r c k b i q).1 0 :=
  zrep_inv (P := fun q : Mem × Int => zSk q.1 0) h _ (fun j _ x hx => brI_S hx)
def smI (T : TS) (least : Int) (i : Int) (j : Nat) (q : Mem × Int) : Mem × Int := (putK q.1 0 i j (decide (least ≤ bcZ (arT T i j) + zbz (laT T i j))), if chX q.1 i j (decide (least ≤ bcZ (arT T i j) + zbz (laT T i j))) then q.2 + 1 else q.2)
def smO (T : TS) (least : Int) (i : Nat) (q : Mem × Int) : Mem × Int := zrep (smI T least i) (tW T).toNat q
/-- what smooth keeps: the map in order, its size, and the spare map -/
def smP (M0 : Mem) (q : Mem × Int) : Prop := zSk q.1 0 ∧ ∀ k : Nat, k ≠ 9 → k ≠ 18 → q.1 k = M0 k
theorem smI_P {T : TS} {least i : Int} {j : Nat} {q : Mem × Int} {M0 : Mem} (h : smP M0 q) : smP M0 (smI T least i j q) := by
  refine ⟨zSk_putK h.1, fun k h1 h2 => ?_⟩
  show putK q.1 0 _ _ _ k = _
  rw [putK_off (by omega) (by omega)]
  exact h.2 k h1 h2
theorem smO_P {T : TS} {least : Int} {i : Nat} {q : Mem × Int} {M0 : Mem} (h : smP M0 q) : smP M0 (smO T least i q) := zrep_inv (P := smP M0) h _ (fun _ _ _ hx => smI_P hx)
theorem smP_spare {M0 : Mem} {q : Mem × Int} (h : smP M0 q) (hS : zSk M0 1) : zSk q.1 1 ∧ tsX q.1 1 = tsX M0 1 :=
  ⟨zSk_congr (h.2 1 (by decide) (by decide)) (h.2 10 (by decide) (by decide)) (h.2 19 (by decide) (by decide)) hS, tsX_congr (h.2 1 (by decide) (by decide)) (h.2 10 (by decide) (by decide)) (h.2 19 (by decide) (by decide))⟩
def tuI (T : TS) (i : Int) (j : Nat) (M : Mem) : Mem := if piT T i j ≠ -1 then putP (putK M 0 j (tH T - 1 - i) (laT T i j)) 0 j (tH T - 1 - i) (tuZ (piT T i j) 1) else putK M 0 j (tH T - 1 - i) (laT T i j)
def tuO (T : TS) (i : Nat) (M : Mem) : Mem := zrep (tuI T i) (tW T).toNat M
def tuM (M : Mem) : Mem := zrep (tuO (tsX M 1)) (tH (tsX M 1)).toNat (watM M 0 (M 1 1) (M 1 0) 144)
/-- what a turn keeps -/
def tuP (M0 : Mem) (q : Mem) : Prop := zSk q 0 ∧ ∀ k : Nat, k ≠ 0 → k ≠ 9 → k ≠ 18 → q k = M0 k
theorem tuZ_ok0 : ∀ s : Nat, s < 47 → 0 ≤ tuZ (s : Int) 1 ∧ tuZ (s : Int) 1 < 47 := by decide +kernel
theorem tuZ_ok {s : Int} (hs : 0 ≤ s ∧ s < 47) : 0 ≤ tuZ s 1 ∧ tuZ s 1 < 47 := by
  obtain ⟨n, rfl⟩ := Int.eq_ofNat_of_zero_le hs.1
  exact tuZ_ok0 n (by omega)
theorem tuI_P {T : TS} {i : Int} {j : Nat} {q M0 : Mem} (hp : ∀ r c : Int, -1 ≤ piT T r c ∧ piT T r c < 47) (h : tuP M0 q) : tuP M0 (tuI T i j q) := by
  have h2 := hp i j
  unfold tuI
  split
  · have h3 := tuZ_ok (s := piT T i j) (by omega)
    refine ⟨zSk_putP (by omega) (zSk_putK h.1), fun k a b c => ?_⟩
    rw [putP_off (by omega), putK_off (by omega) (by omega)]
    exact h.2 k a b c
  · refine ⟨zSk_putK h.1, fun k a b c => ?_⟩
    rw [putK_off (by omega) (by omega)]
    exact h.2 k a b c
theorem tuO_P {T : TS} {i : Nat} {q M0 : Mem} (hp : ∀ r c : Int, -1 ≤ piT T r c ∧ piT T r c < 47) (h : tuP M0 q) : tuP M0 (tuO T i q) := zrep_inv (P := tuP M0) h _ (fun _ _ _ hx => tuI_P hp hx)
theorem tuP_spare {M0 q : Mem} (h : tuP M0 q) (hS : zSk M0 1) : zSk q 1 ∧ tsX q 1 = tsX M0 1 :=
  ⟨zSk_congr (h.2 1 (by decide) (by decide) (by decide)) (h.2 10 (by decide) (by decide) (by decide)) (h.2 19 (by decide) (by decide) (by decide)) hS, tsX_congr (h.2 1 (by decide) (by decide) (by decide)) (h.2 10 (by decide) (by decide) (by decide)) (h.2 19 (by decide) (by decide) (by decide))⟩
theorem tuP_Tb {M0 q : Mem} (h : tuP M0 q) (hT : TbX M0) : TbX q := by
  refine ⟨fun s a b => ?_, fun m a b => ?_⟩
  · rw [h.2 29 (by decide) (by decide) (by decide)]; exact hT.1 s a b
  · rw [h.2 30 (by decide) (by decide) (by decide)]; exact hT.2 m a b
theorem brI_no {r c k i : Int} {b : Bool} {j : Nat} {q : Mem × Int} (h : ¬ (i - k) * (i - k) + ((j : Int) - k) * ((j : Int) - k) ≤ k * k) : brI r c k b i j q = q := if_neg h
theorem brI_t {r c k i : Int} {b : Bool} {j : Nat} {q : Mem × Int} (h : (i - k) * (i - k) + ((j : Int) - k) * ((j : Int) - k) ≤ k * k) (hc : chX q.1 (r + (i - k)) (c + ((j : Int) - k)) b = true) : brI r c k b i j q = (putK q.1 0 (r + (i - k)) (c + ((j : Int) - k)) b, q.2 + 1) := by
  unfold brI
  rw [if_pos h, if_pos hc]
theorem brI_f {r c k i : Int} {b : Bool} {j : Nat} {q : Mem × Int} (h : (i - k) * (i - k) + ((j : Int) - k) * ((j : Int) - k) ≤ k * k) (hc : chX q.1 (r + (i - k)) (c + ((j : Int) - k)) b = false) : brI r c k b i j q = (putK q.1 0 (r + (i - k)) (c + ((j : Int) - k)) b, q.2) := by
  unfold brI
  rw [if_pos h, if_neg (by rw [hc]; decide)]
theorem smI_t {T : TS} {least i : Int} {j : Nat} {q : Mem × Int} (hc : chX q.1 i j (decide (least ≤ bcZ (arT T i j) + zbz (laT T i j))) = true) : smI T least i j q = (putK q.1 0 i j (decide (least ≤ bcZ (arT T i j) + zbz (laT T i j))), q.2 + 1) := by
  unfold smI
  rw [if_pos hc]
theorem smI_f {T : TS} {least i : Int} {j : Nat} {q : Mem × Int} (hc : chX q.1 i j (decide (least ≤ bcZ (arT T i j) + zbz (laT T i j))) = false) : smI T least i j q = (putK q.1 0 i j (decide (least ≤ bcZ (arT T i j) + zbz (laT T i j))), q.2) := by
  unfold smI
  rw [if_neg (by rw [hc]; decide)]
theorem tuM_P {M : Mem} (h0 : zSk M 0) (h1 : zSk M 1) : tuP M (tuM M) := by
  obtain ⟨a1, a2, a3, a4, -⟩ := id h1
  refine zrep_inv (P := tuP M) ⟨zSk_watM (by omega) (by omega) h0.2.2.2.2.1, fun k x y z => watM_off x y z⟩ _ (fun _ _ _ hx => tuO_P (fun r c => piT_bd h1 r c) hx)
def trS (_ : Nat) (M : Mem) : Mem := tuM (copM M 1 0 144)
def trP (M0 : Mem) (q : Mem) : Prop := zSk q 0 ∧ ∀ k : Nat, k ≠ 0 → k ≠ 9 → k ≠ 18 → k ≠ 1 → k ≠ 10 → k ≠ 19 → q k = M0 k
theorem trS_P {M0 q : Mem} {i : Nat} (h : trP M0 q) : trP M0 (trS i q) := by
  have c0 : zSk (copM q 1 0 144) 0 := zSk_congr (copM_offf (by decide) (by decide) (by decide)) (copM_offf (by decide) (by decide) (by decide)) (copM_offf (by decide) (by decide) (by decide)) h.1
  have c1 : zSk (copM q 1 0 144) 1 := zSk_copM h.1
  have h2 := tuM_P c0 c1
  refine ⟨h2.1, fun k x1 x2 x3 x4 x5 x6 => ?_⟩
  show tuM (copM q 1 0 144) k = _
  rw [h2.2 k x1 x2 x3, copM_offf x4 x5 x6]
  exact h.2 k x1 x2 x3 x4 x5 x6
theorem trP_Tb {M0 q : Mem} (h : trP M0 q) (hT : TbX M0) : TbX q := by
  refine ⟨fun s a b => ?_, fun m a b => ?_⟩
  · rw [h.2 29 (by decide) (by decide) (by decide) (by decide) (by decide) (by decide)]; exact hT.1 s a b
  · rw [h.2 30 (by decide) (by decide) (by decide) (by decide) (by decide) (by decide)]; exact hT.2 m a b
