/-! ===== repetition, loops ===== -/
def zrep {α : Type} (f : Nat → α → α) : Nat → α → α
  | 0, a => a
  | n + 1, a => f n (zrep f n a)
theorem zrep_succ {α : Type} (f : Nat → α → α) (n : Nat) (a : α) : zrep f (n + 1) a = f n (zrep f n a) := rfl
theorem zrep_congr {α : Type} {f g : Nat → α → α} : ∀ {n : Nat} (a : α), (∀ i, i < n → ∀ x, f i x = g i x) → zrep f n a = zrep g n a
  | 0, _, _ => rfl
  | n + 1, a, h => by
    rw [zrep_succ, zrep_succ, zrep_congr a (fun i hi x => h i (Nat.lt_succ_of_lt hi) x), h n (Nat.lt_succ_self n)]
theorem zrep_add {α : Type} (f : Nat → α → α) (m : Nat) (a : α) : ∀ n, zrep f (m + n) a = zrep (fun i x => f (m + i) x) n (zrep f m a)
  | 0 => rfl
  | n + 1 => by
    show f (m + n) (zrep f (m + n) a) = _
    rw [zrep_add f m a n]
    rfl
/-- rows of w, one behind the other, are one row -/
theorem zrep_flat {α : Type} (f : Nat → Nat → α → α) (w : Nat) (hw : 0 < w) (a : α) : ∀ h, zrep (fun r x => zrep (fun c y => f r c y) w x) h a = zrep (fun k x => f (k / w) (k % w) x) (h * w) a
  | 0 => by rw [Nat.zero_mul]; rfl
  | h + 1 => by
    rw [zrep_succ, zrep_flat f w hw a h, Nat.succ_mul, zrep_add]
    apply zrep_congr
    intro i hi x
    have e1 : (h * w + i) / w = h := by
      rw [Nat.mul_comm, Nat.mul_add_div hw, Nat.div_eq_of_lt hi, Nat.add_zero]
    have e2 : (h * w + i) % w = i := by
      rw [Nat.mul_comm, Nat.mul_add_mod, Nat.mod_eq_of_lt hi]
    rw [e1, e2]
section ZF
variable {X : CX} {pc : Nat} {lv : List (Nat × MV)} {M : Mem}
theorem z_for (N : Nat) (lvf : Nat → List (Nat × MV)) (Mf : Nat → Mem) (h0 : lv = lvf 0) (hM : M = Mf 0) (hx : zJW X pc (lvf N) [] (Mf N)) (hs : ∀ i, i < N → zJW X pc (lvf (i + 1)) [] (Mf (i + 1)) → zJW X pc (lvf i) [] (Mf i)) : zJW X pc lv [] M := by
  have key : ∀ n, n ≤ N → zJW X pc (lvf (N - n)) [] (Mf (N - n)) := by
    intro n
    induction n with
    | zero => intro _; exact hx
    | succ n ih =>
      intro h
      have e : N - n = N - (n + 1) + 1 := by omega
      have h1 := ih (by omega)
      rw [e] at h1
      exact hs _ (by omega) h1
  rw [h0, hM]
  have := key N (Nat.le_refl N)
  rw [Nat.sub_self] at this
  exact this
theorem z_forI (N : Nat) (lvf : Nat → List (Nat × MV)) (Mf : Nat → Mem) (I : Nat → Prop) (h0 : lv = lvf 0) (hM : M = Mf 0) (hI : I 0) (hx : I N → zJW X pc (lvf N) [] (Mf N)) (hs : ∀ i, i < N → I i → (I (i + 1) → zJW X pc (lvf (i + 1)) [] (Mf (i + 1))) → zJW X pc (lvf i) [] (Mf i)) : zJW X pc lv [] M := by
  have key : ∀ n, n ≤ N → I (N - n) → zJW X pc (lvf (N - n)) [] (Mf (N - n)) := by
    intro n
    induction n with
    | zero => intro _ h; exact hx h
    | succ n ih =>
      intro h hi
      refine hs _ (by omega) hi (fun hi' => ?_)
      have e : N - (n + 1) + 1 = N - n := by omega
      rw [e] at hi' ⊢
      exact ih (by omega) hi'
  rw [h0, hM]
  have := key N (Nat.le_refl N)
  rw [Nat.sub_self] at this
  exact this hI
theorem zbz_nar (b : Bool) : vp_nar .boolean (iI (zbz b)) = iI (zbz b) := by cases b <;> rfl
theorem zbz_t : zbz true = 1 := rfl
theorem zbz_f : zbz false = 0 := rfl
theorem zbz_bd (b : Bool) : 0 ≤ zbz b ∧ zbz b ≤ 1 := by cases b <;> decide
end ZF
theorem z_mmax {K : Kp} {X : CX} {pc : Nat} {lv : List (Nat × MV)} {st : List MV} {M : Mem} (hc : zCx K X) {idx : Nat} {a b : Int} (hw : Cond.methodLink K.2.2.2.1 idx Lib.Math.max.name ∈ TB) (hst : Cond.static Lib.Math.max.name ∈ TB) (hin : Cond.initialized "java/lang/Math" ∈ TB) (hco : Cond.code Lib.Math.max.name Lib.Math.max.code 2 (some .int) ∈ TB) (hd : 1 ≤ K.2.2.2.2.1) (hbd : -2147483648 ≤ a ∧ a < 2147483648 ∧ -2147483648 ≤ b ∧ b < 2147483648) (hr : (st.map zcat).sum ≤ 8) (dg : decode K.1 pc = .ok (.invokestatic idx, 3)) (kk : zJW X (pc + 3) lv (zI (max a b) :: st) M) : zJW X pc lv (zI b :: zI a :: st) M := by
  obtain ⟨p, l, e, R, s, m, args, below, meth, c, D, dA, ids, ad, A, cs, nL, Q⟩ := X
  obtain ⟨hx, hb, hml, hret, hlk, hown, hts, hK, hA0, hA, hinj, hnod, hfl, hSt, hR1, hR2, hcs1, hcs2, hNW, hnl⟩ := hc
  intro H locs ls hP hS hv
  have hcat : ((st.map (zen ad)).map fun v => v.category).sum ≤ 8 := by
    rw [List.map_map, show ((fun v => v.category) ∘ zen ad) = zcat from funext (zcat_eq ad)]
    exact hr
  refine va_mmax hx hb (by rw [hml, hv.1]) hown (hts _ hw) (hts _ hst) (hts _ hin) (hts _ hco) (Nat.le_trans hd hR1) (by omega) hcs1 hcs2 dg ?_
  have hf := iI_lt hbd
  have hg := iI_le hbd
  have e : zen ad (zI (max a b)) = zen ad (zI (if a < b then b else a)) := by
    congr 2
    omega
  have k2 := kk H locs ls hP hS hv
  rw [List.map_cons, e] at k2
  by_cases h : a < b
  · rw [if_pos (hf.mpr h)]
    rw [if_pos h] at k2
    exact k2
  · rw [if_neg (fun q => h (hf.mp q))]
    rw [if_neg h] at k2
    exact k2
theorem z_mmin {K : Kp} {X : CX} {pc : Nat} {lv : List (Nat × MV)} {st : List MV} {M : Mem} (hc : zCx K X) {idx : Nat} {a b : Int} (hw : Cond.methodLink K.2.2.2.1 idx Lib.Math.min.name ∈ TB) (hst : Cond.static Lib.Math.min.name ∈ TB) (hin : Cond.initialized "java/lang/Math" ∈ TB) (hco : Cond.code Lib.Math.min.name Lib.Math.min.code 2 (some .int) ∈ TB) (hd : 1 ≤ K.2.2.2.2.1) (hbd : -2147483648 ≤ a ∧ a < 2147483648 ∧ -2147483648 ≤ b ∧ b < 2147483648) (hr : (st.map zcat).sum ≤ 8) (dg : decode K.1 pc = .ok (.invokestatic idx, 3)) (kk : zJW X (pc + 3) lv (zI (min a b) :: st) M) : zJW X pc lv (zI b :: zI a :: st) M := by
  obtain ⟨p, l, e, R, s, m, args, below, meth, c, D, dA, ids, ad, A, cs, nL, Q⟩ := X
  obtain ⟨hx, hb, hml, hret, hlk, hown, hts, hK, hA0, hA, hinj, hnod, hfl, hSt, hR1, hR2, hcs1, hcs2, hNW, hnl⟩ := hc
  intro H locs ls hP hS hv
  have hcat : ((st.map (zen ad)).map fun v => v.category).sum ≤ 8 := by
    rw [List.map_map, show ((fun v => v.category) ∘ zen ad) = zcat from funext (zcat_eq ad)]
    exact hr
  refine va_mmin hx hb (by rw [hml, hv.1]) hown (hts _ hw) (hts _ hst) (hts _ hin) (hts _ hco) (Nat.le_trans hd hR1) (by omega) hcs1 hcs2 dg ?_
  have hf := iI_lt hbd
  have hg := iI_lt (a := b) (b := a) ⟨hbd.2.2.1, hbd.2.2.2, hbd.1, hbd.2.1⟩
  have e : zen ad (zI (min a b)) = zen ad (zI (if b < a then b else a)) := by
    congr 2
    omega
  have k2 := kk H locs ls hP hS hv
  rw [List.map_cons, e] at k2
  by_cases h : b < a
  · rw [if_pos (hg.mpr h)]
    rw [if_pos h] at k2
    exact k2
  · rw [if_neg (fun q => h (hg.mp q))]
    rw [if_neg h] at k2
    exact k2
