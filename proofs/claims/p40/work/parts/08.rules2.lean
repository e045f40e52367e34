section ZS
variable {K : Kp} {X : CX} {pc : Nat} {lv lv' : List (Nat × MV)} {st : List MV} {M M' : Mem}
def zbz (b : Bool) : Int := if b then 1 else 0
theorem iI_0 : iI 0 = 0 := by decide
theorem zbz_eq0 (b : Bool) : iI (zbz b) = 0 ↔ b = false := by cases b <;> decide
theorem z_ieq (hc : zCx K X) {a : Int} {off : Int} {tgt : Nat} (hb : -2147483648 ≤ a ∧ a < 2147483648) (ht : (pc : Int) + off = (tgt : Int)) (dg : decode K.1 pc = .ok (.ifCond .eq off, 3)) (kt : a = 0 → zJW X tgt lv st M) (kf : a ≠ 0 → zJW X (pc + 3) lv st M) : zJW X pc lv (zI a :: st) M := by
  obtain ⟨p, l, e, R, s, m, args, below, meth, c, D, dA, ids, ad, A, cs, nL, Q⟩ := X
  obtain ⟨hx, hb', -⟩ := hc
  have hf := iI_eq (a := a) (b := 0) ⟨hb.1, hb.2, by decide, by decide⟩
  rw [iI_0] at hf
  intro H locs ls hP hS hv
  exact lv_if_eq hx hb' dg ht (fun h => kt (hf.mp h) H locs ls hP hS hv) (fun h => kf (fun h2 => h (hf.mpr h2)) H locs ls hP hS hv)
theorem z_ceq (hc : zCx K X) {a b : Int} {off : Int} {tgt : Nat} (hb : -2147483648 ≤ a ∧ a < 2147483648 ∧ -2147483648 ≤ b ∧ b < 2147483648) (ht : (pc : Int) + off = (tgt : Int)) (dg : decode K.1 pc = .ok (.if_icmp .eq off, 3)) (kt : a = b → zJW X tgt lv st M) (kf : a ≠ b → zJW X (pc + 3) lv st M) : zJW X pc lv (zI b :: zI a :: st) M := by
  obtain ⟨p, l, e, R, s, m, args, below, meth, c, D, dA, ids, ad, A, cs, nL, Q⟩ := X
  obtain ⟨hx, hb', -⟩ := hc
  have hf := iI_eq (a := a) (b := b) hb
  intro H locs ls hP hS hv
  exact lv_icmp_eq hx hb' dg ht (fun h => kt (hf.mp h) H locs ls hP hS hv) (fun h => kf (fun h2 => h (hf.mpr h2)) H locs ls hP hS hv)
theorem z_ine (hc : zCx K X) {a : Int} {off : Int} {tgt : Nat} (hb : -2147483648 ≤ a ∧ a < 2147483648) (ht : (pc : Int) + off = (tgt : Int)) (dg : decode K.1 pc = .ok (.ifCond .ne off, 3)) (kt : a ≠ 0 → zJW X tgt lv st M) (kf : a = 0 → zJW X (pc + 3) lv st M) : zJW X pc lv (zI a :: st) M := by
  obtain ⟨p, l, e, R, s, m, args, below, meth, c, D, dA, ids, ad, A, cs, nL, Q⟩ := X
  obtain ⟨hx, hb', -⟩ := hc
  have hf := iI_eq (a := a) (b := 0) ⟨hb.1, hb.2, by decide, by decide⟩
  rw [iI_0] at hf
  intro H locs ls hP hS hv
  exact lv_if_ne hx hb' dg ht (fun h => kt (fun h2 => h (hf.mpr h2)) H locs ls hP hS hv) (fun h => kf (hf.mp h) H locs ls hP hS hv)
theorem z_cne (hc : zCx K X) {a b : Int} {off : Int} {tgt : Nat} (hb : -2147483648 ≤ a ∧ a < 2147483648 ∧ -2147483648 ≤ b ∧ b < 2147483648) (ht : (pc : Int) + off = (tgt : Int)) (dg : decode K.1 pc = .ok (.if_icmp .ne off, 3)) (kt : a ≠ b → zJW X tgt lv st M) (kf : a = b → zJW X (pc + 3) lv st M) : zJW X pc lv (zI b :: zI a :: st) M := by
  obtain ⟨p, l, e, R, s, m, args, below, meth, c, D, dA, ids, ad, A, cs, nL, Q⟩ := X
  obtain ⟨hx, hb', -⟩ := hc
  have hf := iI_eq (a := a) (b := b) hb
  intro H locs ls hP hS hv
  exact lv_icmp_ne hx hb' dg ht (fun h => kt (fun h2 => h (hf.mpr h2)) H locs ls hP hS hv) (fun h => kf (hf.mp h) H locs ls hP hS hv)
theorem z_ilt (hc : zCx K X) {a : Int} {off : Int} {tgt : Nat} (hb : -2147483648 ≤ a ∧ a < 2147483648) (ht : (pc : Int) + off = (tgt : Int)) (dg : decode K.1 pc = .ok (.ifCond .lt off, 3)) (kt : a < 0 → zJW X tgt lv st M) (kf : 0 ≤ a → zJW X (pc + 3) lv st M) : zJW X pc lv (zI a :: st) M := by
  obtain ⟨p, l, e, R, s, m, args, below, meth, c, D, dA, ids, ad, A, cs, nL, Q⟩ := X
  obtain ⟨hx, hb', -⟩ := hc
  have hf := iI_lt (a := a) (b := 0) ⟨hb.1, hb.2, by decide, by decide⟩
  rw [iI_0] at hf
  intro H locs ls hP hS hv
  exact lv_if_lt hx hb' dg ht (fun h => kt (hf.mp h) H locs ls hP hS hv) (fun h => kf (Int.not_lt.mp (fun h2 => h (hf.mpr h2))) H locs ls hP hS hv)
theorem z_clt (hc : zCx K X) {a b : Int} {off : Int} {tgt : Nat} (hb : -2147483648 ≤ a ∧ a < 2147483648 ∧ -2147483648 ≤ b ∧ b < 2147483648) (ht : (pc : Int) + off = (tgt : Int)) (dg : decode K.1 pc = .ok (.if_icmp .lt off, 3)) (kt : a < b → zJW X tgt lv st M) (kf : b ≤ a → zJW X (pc + 3) lv st M) : zJW X pc lv (zI b :: zI a :: st) M := by
  obtain ⟨p, l, e, R, s, m, args, below, meth, c, D, dA, ids, ad, A, cs, nL, Q⟩ := X
  obtain ⟨hx, hb', -⟩ := hc
  have hf := iI_lt (a := a) (b := b) hb
  intro H locs ls hP hS hv
  exact lv_icmp_lt hx hb' dg ht (fun h => kt (hf.mp h) H locs ls hP hS hv) (fun h => kf (Int.not_lt.mp (fun h2 => h (hf.mpr h2))) H locs ls hP hS hv)
theorem z_ige (hc : zCx K X) {a : Int} {off : Int} {tgt : Nat} (hb : -2147483648 ≤ a ∧ a < 2147483648) (ht : (pc : Int) + off = (tgt : Int)) (dg : decode K.1 pc = .ok (.ifCond .ge off, 3)) (kt : 0 ≤ a → zJW X tgt lv st M) (kf : a < 0 → zJW X (pc + 3) lv st M) : zJW X pc lv (zI a :: st) M := by
  obtain ⟨p, l, e, R, s, m, args, below, meth, c, D, dA, ids, ad, A, cs, nL, Q⟩ := X
  obtain ⟨hx, hb', -⟩ := hc
  have hf := iI_le (a := 0) (b := a) ⟨by decide, by decide, hb.1, hb.2⟩
  rw [iI_0] at hf
  intro H locs ls hP hS hv
  exact lv_if_ge hx hb' dg ht (fun h => kt (hf.mp h) H locs ls hP hS hv) (fun h => kf (Int.not_le.mp (fun h2 => h (hf.mpr h2))) H locs ls hP hS hv)
theorem z_cge (hc : zCx K X) {a b : Int} {off : Int} {tgt : Nat} (hb : -2147483648 ≤ a ∧ a < 2147483648 ∧ -2147483648 ≤ b ∧ b < 2147483648) (ht : (pc : Int) + off = (tgt : Int)) (dg : decode K.1 pc = .ok (.if_icmp .ge off, 3)) (kt : b ≤ a → zJW X tgt lv st M) (kf : a < b → zJW X (pc + 3) lv st M) : zJW X pc lv (zI b :: zI a :: st) M := by
  obtain ⟨p, l, e, R, s, m, args, below, meth, c, D, dA, ids, ad, A, cs, nL, Q⟩ := X
  obtain ⟨hx, hb', -⟩ := hc
  have hf := iI_le (a := b) (b := a) ⟨hb.2.2.1, hb.2.2.2, hb.1, hb.2.1⟩
  intro H locs ls hP hS hv
  exact lv_icmp_ge hx hb' dg ht (fun h => kt (hf.mp h) H locs ls hP hS hv) (fun h => kf (Int.not_le.mp (fun h2 => h (hf.mpr h2))) H locs ls hP hS hv)
theorem z_igt (hc : zCx K X) {a : Int} {off : Int} {tgt : Nat} (hb : -2147483648 ≤ a ∧ a < 2147483648) (ht : (pc : Int) + off = (tgt : Int)) (dg : decode K.1 pc = .ok (.ifCond .gt off, 3)) (kt : 0 < a → zJW X tgt lv st M) (kf : a ≤ 0 → zJW X (pc + 3) lv st M) : zJW X pc lv (zI a :: st) M := by
  obtain ⟨p, l, e, R, s, m, args, below, meth, c, D, dA, ids, ad, A, cs, nL, Q⟩ := X
  obtain ⟨hx, hb', -⟩ := hc
  have hf := iI_lt (a := 0) (b := a) ⟨by decide, by decide, hb.1, hb.2⟩
  rw [iI_0] at hf
  intro H locs ls hP hS hv
  exact lv_if_gt hx hb' dg ht (fun h => kt (hf.mp h) H locs ls hP hS hv) (fun h => kf (Int.not_lt.mp (fun h2 => h (hf.mpr h2))) H locs ls hP hS hv)
theorem z_cgt (hc : zCx K X) {a b : Int} {off : Int} {tgt : Nat} (hb : -2147483648 ≤ a ∧ a < 2147483648 ∧ -2147483648 ≤ b ∧ b < 2147483648) (ht : (pc : Int) + off = (tgt : Int)) (dg : decode K.1 pc = .ok (.if_icmp .gt off, 3)) (kt : b < a → zJW X tgt lv st M) (kf : a ≤ b → zJW X (pc + 3) lv st M) : zJW X pc lv (zI b :: zI a :: st) M := by
  obtain ⟨p, l, e, R, s, m, args, below, meth, c, D, dA, ids, ad, A, cs, nL, Q⟩ := X
  obtain ⟨hx, hb', -⟩ := hc
  have hf := iI_lt (a := b) (b := a) ⟨hb.2.2.1, hb.2.2.2, hb.1, hb.2.1⟩
  intro H locs ls hP hS hv
  exact lv_icmp_gt hx hb' dg ht (fun h => kt (hf.mp h) H locs ls hP hS hv) (fun h => kf (Int.not_lt.mp (fun h2 => h (hf.mpr h2))) H locs ls hP hS hv)
theorem z_ile (hc : zCx K X) {a : Int} {off : Int} {tgt : Nat} (hb : -2147483648 ≤ a ∧ a < 2147483648) (ht : (pc : Int) + off = (tgt : Int)) (dg : decode K.1 pc = .ok (.ifCond .le off, 3)) (kt : a ≤ 0 → zJW X tgt lv st M) (kf : 0 < a → zJW X (pc + 3) lv st M) : zJW X pc lv (zI a :: st) M := by
  obtain ⟨p, l, e, R, s, m, args, below, meth, c, D, dA, ids, ad, A, cs, nL, Q⟩ := X
  obtain ⟨hx, hb', -⟩ := hc
  have hf := iI_le (a := a) (b := 0) ⟨hb.1, hb.2, by decide, by decide⟩
  rw [iI_0] at hf
  intro H locs ls hP hS hv
  exact lv_if_le hx hb' dg ht (fun h => kt (hf.mp h) H locs ls hP hS hv) (fun h => kf (Int.not_le.mp (fun h2 => h (hf.mpr h2))) H locs ls hP hS hv)
theorem z_cle (hc : zCx K X) {a b : Int} {off : Int} {tgt : Nat} (hb : -2147483648 ≤ a ∧ a < 2147483648 ∧ -2147483648 ≤ b ∧ b < 2147483648) (ht : (pc : Int) + off = (tgt : Int)) (dg : decode K.1 pc = .ok (.if_icmp .le off, 3)) (kt : a ≤ b → zJW X tgt lv st M) (kf : b < a → zJW X (pc + 3) lv st M) : zJW X pc lv (zI b :: zI a :: st) M := by
  obtain ⟨p, l, e, R, s, m, args, below, meth, c, D, dA, ids, ad, A, cs, nL, Q⟩ := X
  obtain ⟨hx, hb', -⟩ := hc
  have hf := iI_le (a := a) (b := b) hb
  intro H locs ls hP hS hv
  exact lv_icmp_le hx hb' dg ht (fun h => kt (hf.mp h) H locs ls hP hS hv) (fun h => kf (Int.not_le.mp (fun h2 => h (hf.mpr h2))) H locs ls hP hS hv)
theorem z_beq (hc : zCx K X) {b : Bool} {off : Int} {tgt : Nat} (ht : (pc : Int) + off = (tgt : Int)) (dg : decode K.1 pc = .ok (.ifCond .eq off, 3)) (kt : b = false → zJW X tgt lv st M) (kf : b = true → zJW X (pc + 3) lv st M) : zJW X pc lv (zI (zbz b) :: st) M := by
  refine z_ieq hc (by cases b <;> decide) ht dg (fun h => kt ?_) (fun h => kf ?_) <;> (cases b <;> first | rfl | (exfalso; revert h; decide))
theorem z_bne (hc : zCx K X) {b : Bool} {off : Int} {tgt : Nat} (ht : (pc : Int) + off = (tgt : Int)) (dg : decode K.1 pc = .ok (.ifCond .ne off, 3)) (kt : b = true → zJW X tgt lv st M) (kf : b = false → zJW X (pc + 3) lv st M) : zJW X pc lv (zI (zbz b) :: st) M := by
  refine z_ine hc (by cases b <;> decide) ht dg (fun h => kt ?_) (fun h => kf ?_) <;> (cases b <;> first | rfl | (exfalso; revert h; decide))
theorem z_inull (hc : zCx K X) {k : Nat} {off : Int} (dg : decode K.1 pc = .ok (.ifnull off, 3)) (kk : zJW X (pc + 3) lv st M) : zJW X pc lv (zR k :: st) M := by
  obtain ⟨p, l, e, R, s, m, args, below, meth, c, D, dA, ids, ad, A, cs, nL, Q⟩ := X
  obtain ⟨hx, hb, -⟩ := hc
  intro H locs ls hP hS hv
  exact lv_ifnull hx hb dg (kk H locs ls hP hS hv)
theorem z_inonnull (hc : zCx K X) {k : Nat} {off : Int} {tgt : Nat} (ht : (pc : Int) + off = (tgt : Int)) (dg : decode K.1 pc = .ok (.ifnonnull off, 3)) (kk : zJW X tgt lv st M) : zJW X pc lv (zR k :: st) M := by
  obtain ⟨p, l, e, R, s, m, args, below, meth, c, D, dA, ids, ad, A, cs, nL, Q⟩ := X
  obtain ⟨hx, hb, -⟩ := hc
  intro H locs ls hP hS hv
  exact lv_ifnonnull hx hb dg ht (kk H locs ls hP hS hv)
theorem z_swOut (hc : zCx K X) {a dflt lo hi : Int} {offs : Array Int} {len tgt : Nat} (hb : -2147483648 ≤ a ∧ a < 2147483648) (h : a < lo ∨ hi < a) (ht : (pc : Int) + dflt = (tgt : Int)) (dg : decode K.1 pc = .ok (.tableswitch dflt lo hi offs, len)) (kk : zJW X tgt lv st M) : zJW X pc lv (zI a :: st) M := by
  obtain ⟨p, l, e, R, s, m, args, below, meth, c, D, dA, ids, ad, A, cs, nL, Q⟩ := X
  obtain ⟨hx, hb', -⟩ := hc
  intro H locs ls hP hS hv
  exact lv_tableOut hx hb' dg (by rw [iI_toInt hb]; exact h) ht (kk H locs ls hP hS hv)
theorem z_swIn (hc : zCx K X) {a dflt lo hi off : Int} {offs : Array Int} {len tgt : Nat} (hb : -2147483648 ≤ a ∧ a < 2147483648) (h : lo ≤ a ∧ a ≤ hi) (ho : offs[(a - lo).toNat]? = some off) (ht : (pc : Int) + off = (tgt : Int)) (dg : decode K.1 pc = .ok (.tableswitch dflt lo hi offs, len)) (kk : zJW X tgt lv st M) : zJW X pc lv (zI a :: st) M := by
  obtain ⟨p, l, e, R, s, m, args, below, meth, c, D, dA, ids, ad, A, cs, nL, Q⟩ := X
  obtain ⟨hx, hb', -⟩ := hc
  intro H locs ls hP hS hv
  exact lv_tableIn hx hb' dg (by rw [iI_toInt hb]; omega) (by rw [iI_toInt hb]; omega) (by rw [iI_toInt hb]; exact ho) ht (kk H locs ls hP hS hv)
-- fields
def zgv (M : Mem) (k j : Nat) : Option Nat → MV := fun o => match o with
  | none => zI (M k j)
  | some k' => zR k'
theorem zgv_en (ad : Nat → Nat) (M : Mem) (k j : Nat) (o : Option Nat) : zen ad (zgv M k j o) = zfv ad M k j o := by cases o <;> rfl
theorem zup_ne {M : Mem} {k i : Nat} {z v : Int} (h : i ≠ k) : zup M k z v i = M i := by
  funext z'
  simp [zup, h]
theorem zup_at (M : Mem) (k : Nat) (z v : Int) : zup M k z v k z = v := by simp [zup]
theorem zup_off {M : Mem} {k : Nat} {z z' v : Int} (h : z' ≠ z) : zup M k z v k z' = M k z' := by simp [zup, h]
theorem zce_congr {ad : Nat → Nat} {dA : Nat → ClassId} {M M' : Mem} {i : Nat} (h : M i = M' i) : zce ad dA M i = zce ad dA M' i := by
  have hf : zfv ad M i = zfv ad M' i := by
    funext j o
    cases o <;> simp [zfv, h]
  simp only [zce, hf, h]
theorem zce_obj {ad : Nat → Nat} {dA : Nat → ClassId} {M : Mem} {k ci : Nat} {fs : List (Option Nat)} (ht : ztm k = some (ci, fs)) : zce ad dA M k = .inr (ci, fs.mapIdx (zfv ad M k)) := by simp only [zce, ht]
theorem zce_arr {ad : Nat → Nat} {dA : Nat → ClassId} {M : Mem} {k t n : Nat} (ht : ztm k = none) (hr : zar k = (t, n)) (h3 : t ≠ 3) : zce ad dA M k = .inl (dA t, n, .inl (fun j => iI (M k j))) := by simp only [zce, ht, hr, if_neg h3]
theorem zce_arrS {ad : Nat → Nat} {dA : Nat → ClassId} {M : Mem} {k n : Nat} (ht : ztm k = none) (hr : zar k = (3, n)) : zce ad dA M k = .inl (dA 3, n, .inr (.inr (.inr (.inr (fun j => some (ad (M k j).toNat)))))) := by simp only [zce, ht, hr, ↓reduceIte]
theorem zfs_put {ad : Nat → Nat} {M : Mem} {k j : Nat} {fs : List (Option Nat)} (hj : fs[j]? = some none) (v : Int) : (fs.mapIdx (zfv ad M k)).set j (.int (iI v)) = fs.mapIdx (zfv ad (zup M k j v) k) := by
  apply List.ext_getElem?
  intro i
  rw [List.getElem?_set, List.getElem?_mapIdx, List.getElem?_mapIdx]
  by_cases hi : j = i
  · subst hi
    obtain ⟨hlt, hfj⟩ := List.getElem?_eq_some_iff.mp hj
    simp [hlt, hfj, zfv, zup_at]
  · rw [if_neg hi]
    have hne : (i : Int) ≠ (j : Int) := fun h => hi (by omega)
    cases fs[i]? with
    | none => rfl
    | some o => cases o <;> simp [zfv, zup_off hne]
theorem z_get (hc : zCx K X) {k ci j idx : Nat} {fs : List (Option Nat)} {o : Option Nat} {C : String} {T : u_T} {N : Nat} (hf : K.2.2.2.2.2.1 k = true) (ht : ztm k = some (ci, fs)) (hj : fs[j]? = some o) (hci : vwCl[ci]? = some (C, T, N)) (hin : ∀ w ∈ u_ws C T N, w ∈ TB) (hjN : j < N) (hw : Cond.fieldLink K.2.2.2.1 idx (T j).1 (T j).2.1 (T j).2.2.1 ∈ TB) (dg : decode K.1 pc = .ok (.getfield idx, 3)) (kk : zJW X (pc + 3) lv (zgv M k j o :: st) M) : zJW X pc lv (zR k :: st) M := by
  obtain ⟨p, l, e, R, s, m, args, below, meth, c, D, dA, ids, ad, A, cs, nL, Q⟩ := X
  obtain ⟨hx, hb, -, -, -, hown, hts, hK, -, -, -, -, hfl, -⟩ := hc
  intro H locs ls hP hS hv
  obtain ⟨q, -, hq⟩ := zWo_at (hfl k hf) ad dA M
  rw [zce_obj ht] at hq
  refine va_get hx hb (ref := (T j).1) (C := C) (T := T) (N := N) hts hin hown hK hP q hq hci j hjN (hts _ hw) (fun _ h => h) (v := zfv ad M k j o) (by rw [List.getElem?_mapIdx, hj]; rfl) dg ?_
  rw [← zgv_en]
  exact kk H locs ls hP hS hv
theorem z_putG (hc : zCx K X) {k ci j idx : Nat} {fs : List (Option Nat)} {C : String} {T : u_T} {N : Nat} {v : Int} (ty0 : Nat → FieldType) (hty : ∀ k, k < N → parseFieldDescriptor (T k).2.2.1 = some (ty0 k)) (hnm : ∀ a, a < N → ∀ b, b < N → a ≠ b → (T a).2.1 ≠ (T b).2.1) (hf : K.2.2.2.2.2.1 k = true) (ht : ztm k = some (ci, fs)) (hj : fs[j]? = some none) (hci : vwCl[ci]? = some (C, T, N)) (hin : ∀ w ∈ u_ws C T N, w ∈ TB) (hjN : j < N) (hfin : (T j).2.2.2 = false) (hw : Cond.fieldLink K.2.2.2.1 idx (T j).1 (T j).2.1 (T j).2.2.1 ∈ TB)
    (hn : narrow (ty0 j) (.int (iI v)) = .int (iI v)) (hfit : fits (ty0 j) (.int (iI v)) = true) (dg : decode K.1 pc = .ok (.putfield idx, 3)) (kk : zJW X (pc + 3) lv st (zup M k j v)) : zJW X pc lv (zI v :: zR k :: st) M := by
  obtain ⟨p, l, e, R, s, m, args, below, meth, c, D, dA, ids, ad, A, cs, nL, Q⟩ := X
  obtain ⟨hx, hb, -, -, -, hown, hts, hK, -, hA, hinj, hnod, hfl, -⟩ := hc
  intro H locs ls hP hS hv
  obtain ⟨q, hq0, hq⟩ := zWo_at (hfl k hf) ad dA M
  rw [zce_obj ht] at hq
  refine va_put (v := .int (iI v)) hx hb (ref := (T j).1) (C := C) (T := T) (N := N) hts hin ty0 hty hnm hown hK hP (zWo_D hA hinj hnod dA M) hS q hq hci j hjN (hts _ hw) (fun _ h => h) hfin (hty j hjN) hn hfit (by rw [List.length_mapIdx]; exact (List.getElem?_eq_some_iff.mp hj).1) dg (fun H1 locs1 hP1 hD1 hS1 => ?_)
  rw [zfs_put hj, ← zce_obj (M := zup M k j v) ht, zWo_set hnod hq0 (fun i hi => zce_congr (zup_ne hi))] at hP1
  exact kk H1 locs1 ls hP1 hS1 hv
theorem z_getN (hc : zCx K X) {k ci j idx : Nat} {host : String} {fs : List (Option Nat)} {o : Option Nat} {C : String} {T : u_T} {N : Nat} (hf : K.2.2.2.2.2.1 k = true) (ht : ztm k = some (ci, fs)) (hj : fs[j]? = some o) (hci : vwCl[ci]? = some (C, T, N)) (hin : ∀ w ∈ u_ws C T N, w ∈ TB) (hjN : j < N) (hw : Cond.fieldLinkNest K.2.2.2.1 idx (T j).1 (T j).2.1 (T j).2.2.1 host ∈ zNW) (dg : decode K.1 pc = .ok (.getfield idx, 3)) (kk : zJW X (pc + 3) lv (zgv M k j o :: st) M) : zJW X pc lv (zR k :: st) M := by
  obtain ⟨p, l, e, R, s, m, args, below, meth, c, D, dA, ids, ad, A, cs, nL, Q⟩ := X
  obtain ⟨hx, hb, -, -, -, hown, hts, hK, -, -, -, -, hfl, -, -, -, -, -, hNW, -⟩ := hc
  intro H locs ls hP hS hv
  obtain ⟨q, -, hq⟩ := zWo_at (hfl k hf) ad dA M
  rw [zce_obj ht] at hq
  refine va_getN (host := host) hx hb (ref := (T j).1) (C := C) (T := T) (N := N) hts hin hown hK hP q hq hci j hjN (zN_use hw (hNW _ hw)) (fun _ h => h) (v := zfv ad M k j o) (by rw [List.getElem?_mapIdx, hj]; rfl) dg ?_
  rw [← zgv_en]
  exact kk H locs ls hP hS hv
theorem z_putGN (hc : zCx K X) {k ci j idx : Nat} {host : String} {fs : List (Option Nat)} {C : String} {T : u_T} {N : Nat} {v : Int} (ty0 : Nat → FieldType) (hty : ∀ k, k < N → parseFieldDescriptor (T k).2.2.1 = some (ty0 k)) (hnm : ∀ a, a < N → ∀ b, b < N → a ≠ b → (T a).2.1 ≠ (T b).2.1) (hf : K.2.2.2.2.2.1 k = true) (ht : ztm k = some (ci, fs)) (hj : fs[j]? = some none) (hci : vwCl[ci]? = some (C, T, N)) (hin : ∀ w ∈ u_ws C T N, w ∈ TB) (hjN : j < N) (hfin : (T j).2.2.2 = false) (hw : Cond.fieldLinkNest K.2.2.2.1 idx (T j).1 (T j).2.1 (T j).2.2.1 host ∈ zNW)
    (hn : narrow (ty0 j) (.int (iI v)) = .int (iI v)) (hfit : fits (ty0 j) (.int (iI v)) = true) (dg : decode K.1 pc = .ok (.putfield idx, 3)) (kk : zJW X (pc + 3) lv st (zup M k j v)) : zJW X pc lv (zI v :: zR k :: st) M := by
  obtain ⟨p, l, e, R, s, m, args, below, meth, c, D, dA, ids, ad, A, cs, nL, Q⟩ := X
  obtain ⟨hx, hb, -, -, -, hown, hts, hK, -, hA, hinj, hnod, hfl, -, -, -, -, -, hNW, -⟩ := hc
  intro H locs ls hP hS hv
  obtain ⟨q, hq0, hq⟩ := zWo_at (hfl k hf) ad dA M
  rw [zce_obj ht] at hq
  refine va_putN (host := host) (v := .int (iI v)) hx hb (ref := (T j).1) (C := C) (T := T) (N := N) hts hin ty0 hty hnm hown hK hP (zWo_D hA hinj hnod dA M) hS q hq hci j hjN (zN_use hw (hNW _ hw)) (fun _ h => h) hfin (hty j hjN) hn hfit (by rw [List.length_mapIdx]; exact (List.getElem?_eq_some_iff.mp hj).1) dg (fun H1 locs1 hP1 hD1 hS1 => ?_)
  rw [zfs_put hj, ← zce_obj (M := zup M k j v) ht, zWo_set hnod hq0 (fun i hi => zce_congr (zup_ne hi))] at hP1
  exact kk H1 locs1 ls hP1 hS1 hv
theorem iI_zbz_nar (b : Bool) : narrow .boolean (.int (iI (zbz b))) = .int (iI (zbz b)) := by cases b <;> rfl
theorem iI_zbz_fit (b : Bool) : fits .boolean (.int (iI (zbz b))) = true := by cases b <;> rfl
-- arrays
theorem zarr_up (M : Mem) (k : Nat) {z v : Int} {c : Nat} (hcl : (c : Int) = z) : upd (fun j : Nat => iI (M k j)) c (iI v) = fun j : Nat => iI (zup M k z v k j) := by
  funext j
  by_cases h : j = c
  · subst h
    rw [hcl, zup_at]
    simp [upd]
  · have hne : (j : Int) ≠ z := fun e => h (by omega)
    rw [zup_off hne]
    simp [upd, h]
theorem z_iald (hc : zCx K X) {k n : Nat} {z : Int} (hf : K.2.2.2.2.2.1 k = true) (ht : ztm k = none) (hr : zar k = (0, n)) (hn : n < 2147483648) (hz : 0 ≤ z ∧ z < n) (dg : decode K.1 pc = .ok (.iaload, 1)) (kk : zJW X (pc + 1) lv (zI (M k z) :: st) M) : zJW X pc lv (zI z :: zR k :: st) M := by
  obtain ⟨p, l, e, R, s, m, args, below, meth, c, D, dA, ids, ad, A, cs, nL, Q⟩ := X
  obtain ⟨hx, hb, -, -, -, hown, hts, hK, -, hA, hinj, hnod, hfl, -⟩ := hc
  intro H locs ls hP hS hv
  obtain ⟨q, hq0, hq⟩ := zWo_at (hfl k hf) ad dA M
  rw [zce_arr ht hr (by decide)] at hq
  obtain ⟨h1, h2⟩ := iI_in hz.1 hz.2 hn
  refine va_iald hx hb hK hP q 0 hq rfl h1 dg ?_
  rw [h2]
  exact kk H locs ls hP hS hv
theorem z_zald (hc : zCx K X) {k n : Nat} {z : Int} (hf : K.2.2.2.2.2.1 k = true) (ht : ztm k = none) (hr : zar k = (1, n)) (hn : n < 2147483648) (hz : 0 ≤ z ∧ z < n) (dg : decode K.1 pc = .ok (.baload, 1)) (kk : zJW X (pc + 1) lv (zI (M k z) :: st) M) : zJW X pc lv (zI z :: zR k :: st) M := by
  obtain ⟨p, l, e, R, s, m, args, below, meth, c, D, dA, ids, ad, A, cs, nL, Q⟩ := X
  obtain ⟨hx, hb, -, -, -, hown, hts, hK, -, hA, hinj, hnod, hfl, -⟩ := hc
  intro H locs ls hP hS hv
  obtain ⟨q, hq0, hq⟩ := zWo_at (hfl k hf) ad dA M
  rw [zce_arr ht hr (by decide)] at hq
  obtain ⟨h1, h2⟩ := iI_in hz.1 hz.2 hn
  refine va_zald hx hb hK hP q 1 hq rfl h1 dg ?_
  rw [h2]
  exact kk H locs ls hP hS hv
theorem z_iast (hc : zCx K X) {k n : Nat} {z v : Int} (hf : K.2.2.2.2.2.1 k = true) (ht : ztm k = none) (hr : zar k = (0, n)) (hn : n < 2147483648) (hz : 0 ≤ z ∧ z < n) (dg : decode K.1 pc = .ok (.iastore, 1)) (kk : zJW X (pc + 1) lv st (zup M k z v)) : zJW X pc lv (zI v :: zI z :: zR k :: st) M := by
  obtain ⟨p, l, e, R, s, m, args, below, meth, c, D, dA, ids, ad, A, cs, nL, Q⟩ := X
  obtain ⟨hx, hb, -, -, -, hown, hts, hK, -, hA, hinj, hnod, hfl, -⟩ := hc
  intro H locs ls hP hS hv
  obtain ⟨q, hq0, hq⟩ := zWo_at (hfl k hf) ad dA M
  rw [zce_arr ht hr (by decide)] at hq
  obtain ⟨h1, h2⟩ := iI_in hz.1 hz.2 hn
  refine va_iast hx hb hK hP (zWo_D hA hinj hnod dA M) hS q 0 hq rfl h1 dg (fun H1 locs1 hP1 hD1 hS1 => ?_)
  rw [zarr_up M k h2, ← zce_arr (M := zup M k z v) ht hr (by decide), zWo_set hnod hq0 (fun i hi => zce_congr (zup_ne hi))] at hP1
  exact kk H1 locs1 ls hP1 hS1 hv
theorem z_zast (hc : zCx K X) {k n : Nat} {z v : Int} (hv0 : vp_nar .boolean (iI v) = iI v) (hf : K.2.2.2.2.2.1 k = true) (ht : ztm k = none) (hr : zar k = (1, n)) (hn : n < 2147483648) (hz : 0 ≤ z ∧ z < n) (dg : decode K.1 pc = .ok (.bastore, 1)) (kk : zJW X (pc + 1) lv st (zup M k z v)) : zJW X pc lv (zI v :: zI z :: zR k :: st) M := by
  obtain ⟨p, l, e, R, s, m, args, below, meth, c, D, dA, ids, ad, A, cs, nL, Q⟩ := X
  obtain ⟨hx, hb, -, -, -, hown, hts, hK, -, hA, hinj, hnod, hfl, -⟩ := hc
  intro H locs ls hP hS hv
  obtain ⟨q, hq0, hq⟩ := zWo_at (hfl k hf) ad dA M
  rw [zce_arr ht hr (by decide)] at hq
  obtain ⟨h1, h2⟩ := iI_in hz.1 hz.2 hn
  refine va_zast hx hb hK hP (zWo_D hA hinj hnod dA M) hS q 1 hq rfl h1 dg (fun H1 locs1 hP1 hD1 hS1 => ?_)
  rw [hv0] at hP1
  rw [zarr_up M k h2, ← zce_arr (M := zup M k z v) ht hr (by decide), zWo_set hnod hq0 (fun i hi => zce_congr (zup_ne hi))] at hP1
  exact kk H1 locs1 ls hP1 hS1 hv
theorem z_aald (hc : zCx K X) {k n : Nat} {z : Int} (hf : K.2.2.2.2.2.1 k = true) (ht : ztm k = none) (hr : zar k = (3, n)) (hn : n < 2147483648) (hz : 0 ≤ z ∧ z < n) (dg : decode K.1 pc = .ok (.aaload, 1)) (kk : zJW X (pc + 1) lv (zR (M k z).toNat :: st) M) : zJW X pc lv (zI z :: zR k :: st) M := by
  obtain ⟨p, l, e, R, s, m, args, below, meth, c, D, dA, ids, ad, A, cs, nL, Q⟩ := X
  obtain ⟨hx, hb, -, -, -, hown, hts, hK, -, hA, hinj, hnod, hfl, -⟩ := hc
  intro H locs ls hP hS hv
  obtain ⟨q, hq0, hq⟩ := zWo_at (hfl k hf) ad dA M
  rw [zce_arrS ht hr] at hq
  obtain ⟨h1, h2⟩ := iI_in hz.1 hz.2 hn
  refine va_aldq hx hb hK hP q 3 hq rfl h1 dg ?_
  rw [h2]
  exact kk H locs ls hP hS hv
theorem z_aast (hc : zCx K X) {k n k' : Nat} {z : Int} {fs : List (Option Nat)} (hf : K.2.2.2.2.2.1 k = true) (hf' : K.2.2.2.2.2.1 k' = true) (ht' : ztm k' = some (3, fs)) (ht : ztm k = none) (hr : zar k = (3, n)) (hn : n < 2147483648) (hz : 0 ≤ z ∧ z < n) (dg : decode K.1 pc = .ok (.aastore, 1)) (kk : zJW X (pc + 1) lv st (zup M k z k')) : zJW X pc lv (zR k' :: zI z :: zR k :: st) M := by
  obtain ⟨p, l, e, R, s, m, args, below, meth, c, D, dA, ids, ad, A, cs, nL, Q⟩ := X
  obtain ⟨hx, hb, -, -, -, hown, hts, hK, -, hA, hinj, hnod, hfl, -⟩ := hc
  intro H locs ls hP hS hv
  obtain ⟨q, hq0, hq⟩ := zWo_at (hfl k hf) ad dA M
  obtain ⟨q', -, hq'⟩ := zWo_at (hfl k' hf') ad dA M
  rw [zce_arrS ht hr] at hq
  rw [zce_obj ht'] at hq'
  obtain ⟨h1, h2⟩ := iI_in hz.1 hz.2 hn
  refine va_astq hx hb hK hP (zWo_D hA hinj hnod dA M) hS q 3 q' 3 (r := (RX3, TX3, 5)) hq rfl hq' rfl h1 dg (fun H1 locs1 hP1 hD1 hS1 => ?_)
  have hup : va_up (fun j : Nat => some (ad (M k j).toNat)) (iI z).toNatClampNeg (some (ad k')) = fun j : Nat => some (ad (zup M k z k' k j).toNat) := by
    funext j
    by_cases h : j = (iI z).toNatClampNeg
    · subst h
      rw [h2, zup_at]
      simp [va_up]
    · have hne : (j : Int) ≠ z := fun e => h (by omega)
      rw [zup_off hne]
      simp [va_up, h]
  rw [hup, ← zce_arrS (M := zup M k z k') ht hr, zWo_set hnod hq0 (fun i hi => zce_congr (zup_ne hi))] at hP1
  exact kk H1 locs1 ls hP1 hS1 hv
theorem z_alen (hc : zCx K X) {k t n : Nat} (hf : K.2.2.2.2.2.1 k = true) (ht : ztm k = none) (hr : zar k = (t, n)) (h3 : t < 2) (dg : decode K.1 pc = .ok (.arraylength, 1)) (kk : zJW X (pc + 1) lv (zI n :: st) M) : zJW X pc lv (zR k :: st) M := by
  obtain ⟨p, l, e, R, s, m, args, below, meth, c, D, dA, ids, ad, A, cs, nL, Q⟩ := X
  obtain ⟨hx, hb, -, -, -, hown, hts, hK, -, hA, hinj, hnod, hfl, -⟩ := hc
  intro H locs ls hP hS hv
  obtain ⟨q, hq0, hq⟩ := zWo_at (hfl k hf) ad dA M
  rw [zce_arr ht hr (by omega)] at hq
  have ht9 : ∃ ty, (zty dA)[t]? = some (dA t, ty) := by
    rcases (show t = 0 ∨ t = 1 by omega) with rfl | rfl <;> exact ⟨_, rfl⟩
  obtain ⟨ty, ht9⟩ := ht9
  exact va_alen hx hb hK hP q t hq ht9 (v := iI n) (by rw [iI_nI]; rfl) dg (kk H locs ls hP hS hv)
-- answers
theorem z_zret (hc : zCx K X) {Qc : Option Int → Mem → Prop} (he : zEnd Qc X) {a : Int} {ty : FieldType} (hr : K.2.2.1 = some ty) (hn : narrow ty (.int (iI a)) = .int (iI a)) (dg : decode K.1 pc = .ok (.ireturn, 1)) (h : Qc (some a) M) : zJW X pc lv [zI a] M := by
  obtain ⟨p, l, e, R, s, m, args, below, meth, c, D, dA, ids, ad, A, cs, nL, Q⟩ := X
  obtain ⟨hx, hb, -, hret, hlk, hown, hts, hK, hA0, hA, hinj, hnod, hfl, -⟩ := hc
  obtain ⟨rfl, rfl⟩ := he
  intro H locs ls hP hS hv
  exact W.zret (v := iI a) hx hb (hret.trans hr) hn (fun t ht hW => ⟨⟨some a, M, rfl, h, by rw [ht]; exact hP⟩, hS.F ht⟩) hS.2.2 dg
theorem z_iret (hc : zCx K X) {Qc : Option Int → Mem → Prop} (he : zEnd Qc X) {a : Int} (hr : K.2.2.1 = some .int) (dg : decode K.1 pc = .ok (.ireturn, 1)) (h : Qc (some a) M) : zJW X pc lv [zI a] M := z_zret hc he hr rfl dg h
theorem z_bret (hc : zCx K X) {Qc : Option Int → Mem → Prop} (he : zEnd Qc X) {a : Bool} (hr : K.2.2.1 = some .boolean) (dg : decode K.1 pc = .ok (.ireturn, 1)) (h : Qc (some (zbz a)) M) : zJW X pc lv [zI (zbz a)] M := z_zret hc he hr (iI_zbz_nar a) dg h
theorem z_vret (hc : zCx K X) {Qc : Option Int → Mem → Prop} (he : zEnd Qc X) (hr : K.2.2.1 = none) (dg : decode K.1 pc = .ok (.return_, 1)) (h : Qc none M) : zJW X pc lv [] M := by
  obtain ⟨p, l, e, R, s, m, args, below, meth, c, D, dA, ids, ad, A, cs, nL, Q⟩ := X
  obtain ⟨hx, hb, -, hret, hlk, hown, hts, hK, hA0, hA, hinj, hnod, hfl, -⟩ := hc
  obtain ⟨rfl, rfl⟩ := he
  intro H locs ls hP hS hv
  exact W.vret hx hb (hret.trans hr) (fun t ht hW => ⟨⟨none, M, rfl, h, by rw [ht]; exact hP⟩, hS.F ht⟩) hS.2.2 dg
end ZS
