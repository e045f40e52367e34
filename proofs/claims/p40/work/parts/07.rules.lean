section ZR
variable {K : Kp} {X : CX} {pc : Nat} {lv lv' : List (Nat × MV)} {st : List MV} {M M' : Mem}
theorem zJW_eq {lv' : List (Nat × MV)} {st' : List MV} {M' : Mem} (h1 : lv = lv') (h2 : st = st') (h3 : M = M') (k : zJW X pc lv' st' M') : zJW X pc lv st M := by subst h1 h2 h3; exact k
theorem zJW_sub (ks : List Nat) (hl : ks.filterMap (fun k => lv[k]?) = lv') (k : zJW X pc lv' st M) : zJW X pc lv st M := by
  obtain ⟨p, l, e, R, s, m, args, below, meth, c, D, dA, ids, ad, A, cs, nL, Q⟩ := X
  intro H locs ls hP hS hv
  refine k H locs ls hP hS ⟨hv.1, hv.2.1, fun q hq => ?_⟩
  obtain ⟨q', hq', rfl⟩ := List.mem_map.mp hq
  rw [← hl] at hq'
  obtain ⟨i, -, hi⟩ := List.mem_filterMap.mp hq'
  exact hv.2.2 _ (List.mem_map.mpr ⟨q', List.mem_of_getElem? hi, rfl⟩)
theorem zlv_at {ad : Nat → Nat} {nL : Nat} {ls : Array Slot} (h : lv_has ls nL (lv.map fun q => (q.1, zen ad q.2))) {i : Nat} {v : MV} (n : Nat) (hn : lv[n]? = some (i, v)) : ls[i]? = some (.val (zen ad v)) :=
  h.2.2 (i, zen ad v) (List.mem_map.mpr ⟨(i, v), List.mem_of_getElem? hn, rfl⟩)
def zset (i : Nat) (v : MV) (lv : List (Nat × MV)) : List (Nat × MV) := (i, v) :: lv.filter (fun q => !(q.1 == i) && !(q.1 + 1 == i && zcat q.2 == 2))
def zset2 (i : Nat) (v : MV) (lv : List (Nat × MV)) : List (Nat × MV) := (i, v) :: lv.filter (fun q => !(q.1 == i) && (!(q.1 == i + 1) && !(q.1 + 1 == i && zcat q.2 == 2)))
theorem zset_map (ad : Nat → Nat) (i : Nat) (v : MV) (lv : List (Nat × MV)) : (i, zen ad v) :: (lv.map fun q => (q.1, zen ad q.2)).filter (fun q => !(q.1 == i) && !(q.1 + 1 == i && q.2.category == 2)) = (zset i v lv).map (fun q => (q.1, zen ad q.2)) := by
  rw [List.filter_map]
  simp only [zset, List.map_cons, Function.comp_def, zcat_eq]
theorem zset2_map (ad : Nat → Nat) (i : Nat) (v : MV) (lv : List (Nat × MV)) : (i, zen ad v) :: (lv.map fun q => (q.1, zen ad q.2)).filter (fun q => !(q.1 == i) && (!(q.1 == i + 1) && !(q.1 + 1 == i && q.2.category == 2))) = (zset2 i v lv).map (fun q => (q.1, zen ad q.2)) := by
  rw [List.filter_map]
  simp only [zset2, List.map_cons, Function.comp_def, zcat_eq]
-- constants
theorem z_iconst (hc : zCx K X) (n : Int) (dg : decode K.1 pc = .ok (.iconst n, 1)) (k : zJW X (pc + 1) lv (zI n :: st) M) : zJW X pc lv st M := by
  obtain ⟨p, l, e, R, s, m, args, below, meth, c, D, dA, ids, ad, A, cs, nL, Q⟩ := X
  obtain ⟨hx, hb, -⟩ := hc
  intro H locs ls hP hS hv
  exact lv_iconst hx hb dg rfl (k H locs ls hP hS hv)
theorem z_bipush (hc : zCx K X) (n : Int) (hn : (Int8.ofInt n).toInt32 = iI n) (dg : decode K.1 pc = .ok (.bipush n, 2)) (k : zJW X (pc + 2) lv (zI n :: st) M) : zJW X pc lv st M := by
  obtain ⟨p, l, e, R, s, m, args, below, meth, c, D, dA, ids, ad, A, cs, nL, Q⟩ := X
  obtain ⟨hx, hb, -⟩ := hc
  intro H locs ls hP hS hv
  exact lv_bipush hx hb dg hn (k H locs ls hP hS hv)
theorem z_sipush (hc : zCx K X) (n : Int) (hn : (Int16.ofInt n).toInt32 = iI n) (dg : decode K.1 pc = .ok (.sipush n, 3)) (k : zJW X (pc + 3) lv (zI n :: st) M) : zJW X pc lv st M := by
  obtain ⟨p, l, e, R, s, m, args, below, meth, c, D, dA, ids, ad, A, cs, nL, Q⟩ := X
  obtain ⟨hx, hb, -⟩ := hc
  intro H locs ls hP hS hv
  exact lv_sipush hx hb dg hn (k H locs ls hP hS hv)
theorem z_ldc (hc : zCx K X) (n : Int) {index : Nat} (hw : Cond.constant K.2.2.2.1 index (iI n) ∈ TB) (dg : decode K.1 pc = .ok (.ldc index, 2)) (k : zJW X (pc + 2) lv (zI n :: st) M) : zJW X pc lv st M := by
  obtain ⟨p, l, e, R, s, m, args, below, meth, c, D, dA, ids, ad, A, cs, nL, Q⟩ := X
  obtain ⟨hx, hb, -, -, -, hown, hts, -⟩ := hc
  intro H locs ls hP hS hv
  exact lv_ldc hx hb hown (hts _ hw) dg (k H locs ls hP hS hv)
theorem z_ldcw (hc : zCx K X) (n : Int) {index : Nat} (hw : Cond.constant K.2.2.2.1 index (iI n) ∈ TB) (dg : decode K.1 pc = .ok (.ldc_w index, 3)) (k : zJW X (pc + 3) lv (zI n :: st) M) : zJW X pc lv st M := by
  obtain ⟨p, l, e, R, s, m, args, below, meth, c, D, dA, ids, ad, A, cs, nL, Q⟩ := X
  obtain ⟨hx, hb, -, -, -, hown, hts, -⟩ := hc
  intro H locs ls hP hS hv
  exact lv_ldcw hx hb hown (hts _ hw) dg (k H locs ls hP hS hv)
theorem z_ldcf (hc : zCx K X) (n : UInt32) {index : Nat} (hw : Cond.constantFloat K.2.2.2.1 index n ∈ TB) (dg : decode K.1 pc = .ok (.ldc index, 2)) (k : zJW X (pc + 2) lv (zF n :: st) M) : zJW X pc lv st M := by
  obtain ⟨p, l, e, R, s, m, args, below, meth, c, D, dA, ids, ad, A, cs, nL, Q⟩ := X
  obtain ⟨hx, hb, -, -, -, hown, hts, -⟩ := hc
  intro H locs ls hP hS hv
  exact lv_ldcf hx hb hown (hts _ hw) dg (k H locs ls hP hS hv)
theorem z_ldc2 (hc : zCx K X) (n : Int64) {index : Nat} (hw : Cond.constantLong K.2.2.2.1 index n ∈ TB) (dg : decode K.1 pc = .ok (.ldc2_w index, 3)) (k : zJW X (pc + 3) lv (zL n :: st) M) : zJW X pc lv st M := by
  obtain ⟨p, l, e, R, s, m, args, below, meth, c, D, dA, ids, ad, A, cs, nL, Q⟩ := X
  obtain ⟨hx, hb, -, -, -, hown, hts, -⟩ := hc
  intro H locs ls hP hS hv
  exact lv_ldc2 hx hb hown (hts _ hw) dg (k H locs ls hP hS hv)
theorem z_lconst (hc : zCx K X) (n : Fin 2) (v : Int64) (hn : Int64.ofNat (n : Nat) = v) (dg : decode K.1 pc = .ok (.lconst n, 1)) (k : zJW X (pc + 1) lv (zL v :: st) M) : zJW X pc lv st M := by
  obtain ⟨p, l, e, R, s, m, args, below, meth, c, D, dA, ids, ad, A, cs, nL, Q⟩ := X
  obtain ⟨hx, hb, -⟩ := hc
  intro H locs ls hP hS hv
  exact lv_lconst hx hb dg hn (k H locs ls hP hS hv)
-- loads: of any kind, by the place n in the list of locals
theorem z_ild (hc : zCx K X) {q : Fin 4} {x : Int} (n : Nat) (hn : lv[n]? = some ((q : Nat), zI x)) (dg : decode K.1 pc = .ok (.iload_n q, 1)) (k : zJW X (pc + 1) lv (zI x :: st) M) : zJW X pc lv st M := by
  obtain ⟨p, l, e, R, s, m, args, below, meth, c, D, dA, ids, ad, A, cs, nL, Q⟩ := X
  obtain ⟨hx, hb, -⟩ := hc
  intro H locs ls hP hS hv
  exact lv_iload_n hx hb dg rfl (zlv_at hv n hn) (k H locs ls hP hS hv)
theorem z_ilw (hc : zCx K X) {q : Nat} {x : Int} (n : Nat) (hn : lv[n]? = some (q, zI x)) (dg : decode K.1 pc = .ok (.iload q, 2)) (k : zJW X (pc + 2) lv (zI x :: st) M) : zJW X pc lv st M := by
  obtain ⟨p, l, e, R, s, m, args, below, meth, c, D, dA, ids, ad, A, cs, nL, Q⟩ := X
  obtain ⟨hx, hb, -⟩ := hc
  intro H locs ls hP hS hv
  exact lv_iload hx hb dg (zlv_at hv n hn) (k H locs ls hP hS hv)
theorem z_ald (hc : zCx K X) {q : Fin 4} {x : Nat} (n : Nat) (hn : lv[n]? = some ((q : Nat), zR x)) (dg : decode K.1 pc = .ok (.aload_n q, 1)) (k : zJW X (pc + 1) lv (zR x :: st) M) : zJW X pc lv st M := by
  obtain ⟨p, l, e, R, s, m, args, below, meth, c, D, dA, ids, ad, A, cs, nL, Q⟩ := X
  obtain ⟨hx, hb, -⟩ := hc
  intro H locs ls hP hS hv
  exact lv_aload_n hx hb dg rfl (zlv_at hv n hn) (k H locs ls hP hS hv)
theorem z_fld (hc : zCx K X) {q : Fin 4} {x : UInt32} (n : Nat) (hn : lv[n]? = some ((q : Nat), zF x)) (dg : decode K.1 pc = .ok (.fload_n q, 1)) (k : zJW X (pc + 1) lv (zF x :: st) M) : zJW X pc lv st M := by
  obtain ⟨p, l, e, R, s, m, args, below, meth, c, D, dA, ids, ad, A, cs, nL, Q⟩ := X
  obtain ⟨hx, hb, -⟩ := hc
  intro H locs ls hP hS hv
  exact lv_fload_n hx hb dg rfl (zlv_at hv n hn) (k H locs ls hP hS hv)
theorem z_lld (hc : zCx K X) {q : Fin 4} {x : Int64} (n : Nat) (hn : lv[n]? = some ((q : Nat), zL x)) (dg : decode K.1 pc = .ok (.lload_n q, 1)) (k : zJW X (pc + 1) lv (zL x :: st) M) : zJW X pc lv st M := by
  obtain ⟨p, l, e, R, s, m, args, below, meth, c, D, dA, ids, ad, A, cs, nL, Q⟩ := X
  obtain ⟨hx, hb, -⟩ := hc
  intro H locs ls hP hS hv
  exact lv_lload_n hx hb dg rfl (zlv_at hv n hn) (k H locs ls hP hS hv)
-- stores
theorem z_ist (hc : zCx K X) {q : Fin 4} {x : Int} (hl : zset q (zI x) lv = lv') (hq : (q : Nat) < K.2.1) (dg : decode K.1 pc = .ok (.istore_n q, 1)) (k : zJW X (pc + 1) lv' st M) : zJW X pc lv (zI x :: st) M := by
  obtain ⟨p, l, e, R, s, m, args, below, meth, c, D, dA, ids, ad, A, cs, nL, Q⟩ := X
  obtain ⟨hx, hb, -, -, -, -, -, -, -, -, -, -, -, -, -, -, -, -, -, hnl⟩ := hc
  intro H locs ls hP hS hv
  exact lv_istore_n hx hb dg rfl hv (by omega) ((zset_map ad q (zI x) lv).trans (by rw [hl])) (fun ls' h' => k H locs ls' hP hS h')
theorem z_isw (hc : zCx K X) {q : Nat} {x : Int} (hl : zset q (zI x) lv = lv') (hq : q < K.2.1) (dg : decode K.1 pc = .ok (.istore q, 2)) (k : zJW X (pc + 2) lv' st M) : zJW X pc lv (zI x :: st) M := by
  obtain ⟨p, l, e, R, s, m, args, below, meth, c, D, dA, ids, ad, A, cs, nL, Q⟩ := X
  obtain ⟨hx, hb, -, -, -, -, -, -, -, -, -, -, -, -, -, -, -, -, -, hnl⟩ := hc
  intro H locs ls hP hS hv
  exact lv_istore hx hb dg hv (by omega) ((zset_map ad q (zI x) lv).trans (by rw [hl])) (fun ls' h' => k H locs ls' hP hS h')
theorem z_ast (hc : zCx K X) {q : Fin 4} {x : Nat} (hl : zset q (zR x) lv = lv') (hq : (q : Nat) < K.2.1) (dg : decode K.1 pc = .ok (.astore_n q, 1)) (k : zJW X (pc + 1) lv' st M) : zJW X pc lv (zR x :: st) M := by
  obtain ⟨p, l, e, R, s, m, args, below, meth, c, D, dA, ids, ad, A, cs, nL, Q⟩ := X
  obtain ⟨hx, hb, -, -, -, -, -, -, -, -, -, -, -, -, -, -, -, -, -, hnl⟩ := hc
  intro H locs ls hP hS hv
  exact lv_astore_n hx hb dg rfl hv (by omega) ((zset_map ad q (zR x) lv).trans (by rw [hl])) (fun ls' h' => k H locs ls' hP hS h')
theorem z_fst (hc : zCx K X) {q : Fin 4} {x : UInt32} (hl : zset q (zF x) lv = lv') (hq : (q : Nat) < K.2.1) (dg : decode K.1 pc = .ok (.fstore_n q, 1)) (k : zJW X (pc + 1) lv' st M) : zJW X pc lv (zF x :: st) M := by
  obtain ⟨p, l, e, R, s, m, args, below, meth, c, D, dA, ids, ad, A, cs, nL, Q⟩ := X
  obtain ⟨hx, hb, -, -, -, -, -, -, -, -, -, -, -, -, -, -, -, -, -, hnl⟩ := hc
  intro H locs ls hP hS hv
  exact lv_fstore_n hx hb dg rfl hv (by omega) ((zset_map ad q (zF x) lv).trans (by rw [hl])) (fun ls' h' => k H locs ls' hP hS h')
theorem z_lst (hc : zCx K X) {q : Fin 4} {x : Int64} (hl : zset2 q (zL x) lv = lv') (hq : (q : Nat) + 1 < K.2.1) (dg : decode K.1 pc = .ok (.lstore_n q, 1)) (k : zJW X (pc + 1) lv' st M) : zJW X pc lv (zL x :: st) M := by
  obtain ⟨p, l, e, R, s, m, args, below, meth, c, D, dA, ids, ad, A, cs, nL, Q⟩ := X
  obtain ⟨hx, hb, -, -, -, -, -, -, -, -, -, -, -, -, -, -, -, -, -, hnl⟩ := hc
  intro H locs ls hP hS hv
  exact lv_lstore_n hx hb dg rfl hv (by omega) ((zset2_map ad q (zL x) lv).trans (by rw [hl])) (fun ls' h' => k H locs ls' hP hS h')
theorem z_iinc (hc : zCx K X) {q : Nat} {n x : Int} (i : Nat) (hi : lv[i]? = some (q, zI x)) (hl : zset q (zI (x + n)) lv = lv') (hq : q < K.2.1) (dg : decode K.1 pc = .ok (.iinc q n, 3)) (k : zJW X (pc + 3) lv' st M) : zJW X pc lv st M := by
  obtain ⟨p, l, e, R, s, m, args, below, meth, c, D, dA, ids, ad, A, cs, nL, Q⟩ := X
  obtain ⟨hx, hb, -, -, -, -, -, -, -, -, -, -, -, -, -, -, -, -, -, hnl⟩ := hc
  intro H locs ls hP hS hv
  exact lv_iinc hx hb dg hv (k := i) (x := iI x) (v := iI (x + n)) (by rw [List.getElem?_map, hi]; rfl) (iI_add x n) (by omega) ((zset_map ad q (zI (x + n)) lv).trans (by rw [hl])) (fun ls' h' => k H locs ls' hP hS h')
-- arithmetic
theorem z_iadd (hc : zCx K X) {a b : Int} (dg : decode K.1 pc = .ok (.iadd, 1)) (k : zJW X (pc + 1) lv (zI (a + b) :: st) M) : zJW X pc lv (zI b :: zI a :: st) M := by
  obtain ⟨p, l, e, R, s, m, args, below, meth, c, D, dA, ids, ad, A, cs, nL, Q⟩ := X
  obtain ⟨hx, hb, -⟩ := hc
  intro H locs ls hP hS hv
  refine lv_iadd hx hb dg ?_
  rw [iI_add]
  exact k H locs ls hP hS hv
theorem z_isub (hc : zCx K X) {a b : Int} (dg : decode K.1 pc = .ok (.isub, 1)) (k : zJW X (pc + 1) lv (zI (a - b) :: st) M) : zJW X pc lv (zI b :: zI a :: st) M := by
  obtain ⟨p, l, e, R, s, m, args, below, meth, c, D, dA, ids, ad, A, cs, nL, Q⟩ := X
  obtain ⟨hx, hb, -⟩ := hc
  intro H locs ls hP hS hv
  refine lv_isub hx hb dg ?_
  rw [iI_sub]
  exact k H locs ls hP hS hv
theorem z_imul (hc : zCx K X) {a b : Int} (dg : decode K.1 pc = .ok (.imul, 1)) (k : zJW X (pc + 1) lv (zI (a * b) :: st) M) : zJW X pc lv (zI b :: zI a :: st) M := by
  obtain ⟨p, l, e, R, s, m, args, below, meth, c, D, dA, ids, ad, A, cs, nL, Q⟩ := X
  obtain ⟨hx, hb, -⟩ := hc
  intro H locs ls hP hS hv
  refine lv_imul hx hb dg ?_
  rw [iI_mul]
  exact k H locs ls hP hS hv
theorem z_ineg (hc : zCx K X) {a : Int} (dg : decode K.1 pc = .ok (.ineg, 1)) (k : zJW X (pc + 1) lv (zI (-a) :: st) M) : zJW X pc lv (zI a :: st) M := by
  obtain ⟨p, l, e, R, s, m, args, below, meth, c, D, dA, ids, ad, A, cs, nL, Q⟩ := X
  obtain ⟨hx, hb, -⟩ := hc
  intro H locs ls hP hS hv
  refine lv_ineg hx hb dg ?_
  rw [iI_neg]
  exact k H locs ls hP hS hv
theorem z_idiv (hc : zCx K X) {a b : Int} (h : 0 ≤ a ∧ a < 2147483648 ∧ 0 < b ∧ b < 2147483648) (dg : decode K.1 pc = .ok (.idiv, 1)) (k : zJW X (pc + 1) lv (zI (a / b) :: st) M) : zJW X pc lv (zI b :: zI a :: st) M := by
  obtain ⟨p, l, e, R, s, m, args, below, meth, c, D, dA, ids, ad, A, cs, nL, Q⟩ := X
  obtain ⟨hx, hb, -⟩ := hc
  obtain ⟨e1, e2, e3⟩ := zdiv ⟨h.1, h.2.1⟩ h.2.2
  intro H locs ls hP hS hv
  refine lv_idiv hx hb dg e3 ?_
  rw [e1]
  exact k H locs ls hP hS hv
theorem z_irem (hc : zCx K X) {a b : Int} (h : 0 ≤ a ∧ a < 2147483648 ∧ 0 < b ∧ b < 2147483648) (dg : decode K.1 pc = .ok (.irem, 1)) (k : zJW X (pc + 1) lv (zI (a % b) :: st) M) : zJW X pc lv (zI b :: zI a :: st) M := by
  obtain ⟨p, l, e, R, s, m, args, below, meth, c, D, dA, ids, ad, A, cs, nL, Q⟩ := X
  obtain ⟨hx, hb, -⟩ := hc
  obtain ⟨e1, e2, e3⟩ := zdiv ⟨h.1, h.2.1⟩ h.2.2
  intro H locs ls hP hS hv
  refine lv_irem hx hb dg e3 ?_
  rw [e2]
  exact k H locs ls hP hS hv
theorem z_iand (hc : zCx K X) {a b : Int} (dg : decode K.1 pc = .ok (.iand, 1)) (k : zJW X (pc + 1) lv (zI (zan a b) :: st) M) : zJW X pc lv (zI b :: zI a :: st) M := by
  obtain ⟨p, l, e, R, s, m, args, below, meth, c, D, dA, ids, ad, A, cs, nL, Q⟩ := X
  obtain ⟨hx, hb, -⟩ := hc
  intro H locs ls hP hS hv
  refine lv_iand hx hb dg ?_
  rw [← iI_val (iI a &&& iI b)]
  exact k H locs ls hP hS hv
theorem z_ior (hc : zCx K X) {a b : Int} (dg : decode K.1 pc = .ok (.ior, 1)) (k : zJW X (pc + 1) lv (zI (zor a b) :: st) M) : zJW X pc lv (zI b :: zI a :: st) M := by
  obtain ⟨p, l, e, R, s, m, args, below, meth, c, D, dA, ids, ad, A, cs, nL, Q⟩ := X
  obtain ⟨hx, hb, -⟩ := hc
  intro H locs ls hP hS hv
  refine lv_ior hx hb dg ?_
  rw [← iI_val (iI a ||| iI b)]
  exact k H locs ls hP hS hv
theorem z_ixor (hc : zCx K X) {a b : Int} (dg : decode K.1 pc = .ok (.ixor, 1)) (k : zJW X (pc + 1) lv (zI (zxr a b) :: st) M) : zJW X pc lv (zI b :: zI a :: st) M := by
  obtain ⟨p, l, e, R, s, m, args, below, meth, c, D, dA, ids, ad, A, cs, nL, Q⟩ := X
  obtain ⟨hx, hb, -⟩ := hc
  intro H locs ls hP hS hv
  refine lv_ixor hx hb dg ?_
  rw [← iI_val (iI a ^^^ iI b)]
  exact k H locs ls hP hS hv
theorem z_ishl (hc : zCx K X) {a b : Int} (dg : decode K.1 pc = .ok (.ishl, 1)) (k : zJW X (pc + 1) lv (zI (zsl a b) :: st) M) : zJW X pc lv (zI b :: zI a :: st) M := by
  obtain ⟨p, l, e, R, s, m, args, below, meth, c, D, dA, ids, ad, A, cs, nL, Q⟩ := X
  obtain ⟨hx, hb, -⟩ := hc
  intro H locs ls hP hS hv
  refine lv_ishl hx hb dg ?_
  rw [← iI_val (iI a <<< (iI b &&& 31))]
  exact k H locs ls hP hS hv
theorem z_ishr (hc : zCx K X) {a b : Int} (dg : decode K.1 pc = .ok (.ishr, 1)) (k : zJW X (pc + 1) lv (zI (zsr a b) :: st) M) : zJW X pc lv (zI b :: zI a :: st) M := by
  obtain ⟨p, l, e, R, s, m, args, below, meth, c, D, dA, ids, ad, A, cs, nL, Q⟩ := X
  obtain ⟨hx, hb, -⟩ := hc
  intro H locs ls hP hS hv
  refine lv_ishr hx hb dg ?_
  rw [← iI_val (iI a >>> (iI b &&& 31))]
  exact k H locs ls hP hS hv
theorem z_iushr (hc : zCx K X) {a b : Int} (dg : decode K.1 pc = .ok (.iushr, 1)) (k : zJW X (pc + 1) lv (zI (zus a b) :: st) M) : zJW X pc lv (zI b :: zI a :: st) M := by
  obtain ⟨p, l, e, R, s, m, args, below, meth, c, D, dA, ids, ad, A, cs, nL, Q⟩ := X
  obtain ⟨hx, hb, -⟩ := hc
  intro H locs ls hP hS hv
  exact lv_iushr hx hb (v := iI (zus a b)) dg (by unfold zus; rw [iI_val]) (k H locs ls hP hS hv)
theorem z_i2c (hc : zCx K X) {a : Int} (dg : decode K.1 pc = .ok (.i2c, 1)) (k : zJW X (pc + 1) lv (zI (zch a) :: st) M) : zJW X pc lv (zI a :: st) M := by
  obtain ⟨p, l, e, R, s, m, args, below, meth, c, D, dA, ids, ad, A, cs, nL, Q⟩ := X
  obtain ⟨hx, hb, -⟩ := hc
  intro H locs ls hP hS hv
  exact lv_i2c hx hb (v := iI (zch a)) dg (by unfold zch; rw [iI_val]) (k H locs ls hP hS hv)
-- the stack
theorem z_dup (hc : zCx K X) {v : MV} (hv1 : zcat v = 1) (dg : decode K.1 pc = .ok (.dup, 1)) (k : zJW X (pc + 1) lv (v :: v :: st) M) : zJW X pc lv (v :: st) M := by
  obtain ⟨p, l, e, R, s, m, args, below, meth, c, D, dA, ids, ad, A, cs, nL, Q⟩ := X
  obtain ⟨hx, hb, -⟩ := hc
  intro H locs ls hP hS hv
  exact lv_dup hx hb dg ((zcat_eq ad v).trans hv1) (k H locs ls hP hS hv)
theorem z_pop (hc : zCx K X) {v : MV} (hv1 : zcat v = 1) (dg : decode K.1 pc = .ok (.pop, 1)) (k : zJW X (pc + 1) lv st M) : zJW X pc lv (v :: st) M := by
  obtain ⟨p, l, e, R, s, m, args, below, meth, c, D, dA, ids, ad, A, cs, nL, Q⟩ := X
  obtain ⟨hx, hb, -⟩ := hc
  intro H locs ls hP hS hv
  exact lv_pop hx hb dg ((zcat_eq ad v).trans hv1) (k H locs ls hP hS hv)
theorem z_goto (hc : zCx K X) {off : Int} {tgt : Nat} (ht : (pc : Int) + off = (tgt : Int)) (dg : decode K.1 pc = .ok (.goto off, 3)) (k : zJW X tgt lv st M) : zJW X pc lv st M := by
  obtain ⟨p, l, e, R, s, m, args, below, meth, c, D, dA, ids, ad, A, cs, nL, Q⟩ := X
  obtain ⟨hx, hb, -⟩ := hc
  intro H locs ls hP hS hv
  exact lv_goto hx hb dg ht (k H locs ls hP hS hv)
end ZR
