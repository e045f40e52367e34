-- objects under construction: worlds as plain lists
section ZG
variable {K K' : Kp} {X : CX} {pc : Nat} {lv lv' : List (Nat × Value)} {st : List Value} {ws ws' : va_W} {cs : Nat × Nat} {mc ms : Nat}
def zdA (X : CX) : Nat → ClassId := match X with
  | (p, l, e, R, s, m, args, below, meth, c, D, dA, ids, ad, A, cs, nL, Q) => dA
def zJG (X : CX) (ws : va_W) (cs : Nat × Nat) (pc : Nat) (lv : List (Nat × Value)) (st : List Value) : Prop := match X with
  | (p, l, e, R, s, m, args, below, meth, c, D, dA, ids, ad, A, cs0, nL, Q) => ∀ (H : Heap) (locs : List Loc) (ls : Array Slot), va_P D vwCl ws H → va_D A ws → va_S A s.heap H locs → lv_has ls nL lv → W p l e R s m args below meth c H locs cs.1 cs.2 Q (F0 m pc ls st)
def zGx (K : Kp) (mc ms : Nat) (X : CX) : Prop := match X with
  | (p, l, e, R, s, m, args, below, meth, c, D, dA, ids, ad, A, cs, nL, Q) => p.tables.exec = Jvm.exec ∧ c.code = K.1 ∧ c.maxLocals = nL ∧ meth.sig.returnType = K.2.2.1 ∧ meth.locks = false ∧ s.vm.findClass K.2.2.2.1 = some m.cls ∧
    (∀ w ∈ TB, w.before args s = true) ∧ va_K D vwCl (zty dA) s ∧ (∀ q, s.heap.size ≤ q → A q) ∧ K.2.2.2.2.1 ≤ R.frames ∧ 39 * K.2.2.2.2.1 ≤ R.locals ∧ mc ≤ R.cells ∧ ms ≤ R.slots ∧ (∀ w ∈ zNW, va_Nw w s) ∧ nL = K.2.1 ∧ va_AO "CoastTiles$State" s ∧ (K.2.2.1 = none → meth.name = "<init>")
def zNt (y : MethodName) (K : Kp) (mc ms ci : Nat) (fs : List Value) (Wd : (Nat → ClassId) → Nat → (Nat → Nat) → va_W) : Prop := ∀ (l : Launch) (D : va_G) (dA : Nat → ClassId) (b sz : Nat),
  Met l y (.code y K.1 K.2.1 none :: TB) { frames := K.2.2.2.2.1, cells := mc, slots := ms, locals := 39 * K.2.2.2.2.1 } (va_Pc [.ref b] (fun U => U.heap.size = sz ∧ va_P D vwCl [(b, .inr (ci, fs))] U.heap ∧ va_K D vwCl (zty dA) U ∧ va_D (fun _ => True) [(b, .inr (ci, fs))] ∧ va_AO "CoastTiles$State" U ∧ ∀ w ∈ zNW, va_Nw w U))
    (va_Qv (fun _ : Nat → Nat => True) (fun a t => va_P D vwCl (Wd dA b a) t.heap ∧ va_D (va_A [(b, .inr (ci, fs))] sz) (Wd dA b a)) (va_A [(b, .inr (ci, fs))] sz)) mc ms (va_A [(b, .inr (ci, fs))] sz)
/-- the end of a constructor -/
def zGE (mc ms : Nat) (b : Nat) (Wd : (Nat → ClassId) → Nat → (Nat → Nat) → va_W) (X : CX) : Prop := match X with
  | (p, l, e, R, s, m, args, below, meth, c, D, dA, ids, ad, A, cs, nL, Z) => R.cells = mc ∧ R.slots = ms ∧ Z = MQ below (va_Qv (fun _ : Nat → Nat => True) (fun a t => va_P D vwCl (Wd dA b a) t.heap ∧ va_D A (Wd dA b a)) A) args s mc ms A
theorem g_met {y : MethodName} {ci : Nat} {fs : List Value} {Wd : (Nat → ClassId) → Nat → (Nat → Nat) → va_W} (hy : plainName y.cls = true) (ho : K.2.2.2.1 = y.cls) (hret : K.2.2.1 = none) (hname : y.name = "<init>") (hlen : 1 ≤ K.2.1) (body : ∀ (b : Nat) (X : CX), zGx K mc ms X → zGE mc ms b Wd X → zJG X [(b, .inr (ci, fs))] (0, 0) 0 [(0, .ref b)] []) : zNt y K mc ms ci fs Wd := by
  intro l D dA b sz
  refine Met.ofW (cc := K.1) (maxL := K.2.1) (ret := none) hy rfl ?_
  intro p e s m args below meth c s₁ B hml hv
  obtain ⟨hargs, hsz, hP, hK, hD0, hAO, hNW⟩ := hv
  have hts := atoms_spec (ws := .code y K.1 K.2.1 none :: TB) B.pre
  have hown : s.vm.findClass y.cls = some m.cls := findClass_of_methodNamed B.named
  have hin : meth.name = "<init>" := by rw [← hname]; exact (name_of_methodNamed B.named B.method).1
  subst hsz
  have hD := hD0.self (sz := s.heap.size)
  have hz := body b (p, l, e, { frames := K.2.2.2.2.1, cells := mc, slots := ms, locals := 39 * K.2.2.2.2.1 }, s, m, args, below, meth, c, D, dA, [], fun _ => 0, va_A [(b, .inr (ci, fs))] s.heap.size, (0, 0), K.2.1, MQ below (va_Qv (fun _ : Nat → Nat => True) (fun a t => va_P D vwCl (Wd dA b a) t.heap ∧ va_D (va_A [(b, .inr (ci, fs))] s.heap.size) (Wd dA b a)) (va_A [(b, .inr (ci, fs))] s.heap.size)) args s mc ms (va_A [(b, .inr (ci, fs))] s.heap.size))
    ⟨B.exec, B.bytes, hml, by rw [hret]; exact B.returns, B.notSynchronized, by rw [ho]; exact hown, fun w hw => hts w (List.mem_cons_of_mem _ hw), hK, fun q h => Or.inr h, Nat.le_refl _, Nat.le_refl _, Nat.le_refl _, Nat.le_refl _, hNW, rfl, hAO, fun _ => hin⟩ ⟨rfl, rfl, rfl⟩
  have hl := lv_entry [Value.ref b] (n := K.2.1) hlen
  rw [hargs, lg_entry_eq]
  rw [hargs] at hz
  exact hz s.heap [] _ hP hD va_S.rf hl
theorem zJG_eq (h : ws = ws') (k : zJG X ws' cs pc lv st) : zJG X ws cs pc lv st := by rw [h]; exact k
theorem g_const (hc : zGx K mc ms X) (n : Int) {len : Nat} (dg : decode K.1 pc = .ok (.iconst n, 1) ∧ len = 1 ∨ decode K.1 pc = .ok (.bipush n, 2) ∧ len = 2 ∧ (Int8.ofInt n).toInt32 = iI n ∨ decode K.1 pc = .ok (.sipush n, 3) ∧ len = 3 ∧ (Int16.ofInt n).toInt32 = iI n) (k : zJG X ws cs (pc + len) lv (.int (iI n) :: st)) : zJG X ws cs pc lv st := by
  obtain ⟨p, l, e, R, s, m, args, below, meth, c, D, dA, ids, ad, A, cs0, nL, Q⟩ := X
  obtain ⟨hx, hb, -⟩ := hc
  intro H locs ls hP hD hS hv
  rcases dg with ⟨dg, rfl⟩ | ⟨dg, rfl, hn⟩ | ⟨dg, rfl, hn⟩
  · exact lv_iconst hx hb dg rfl (k H locs ls hP hD hS hv)
  · exact lv_bipush hx hb dg hn (k H locs ls hP hD hS hv)
  · exact lv_sipush hx hb dg hn (k H locs ls hP hD hS hv)
theorem g_ald (hc : zGx K mc ms X) {q : Fin 4} {x : Nat} (n : Nat) (hn : lv[n]? = some ((q : Nat), .ref x)) (dg : decode K.1 pc = .ok (.aload_n q, 1)) (k : zJG X ws cs (pc + 1) lv (.ref x :: st)) : zJG X ws cs pc lv st := by
  obtain ⟨p, l, e, R, s, m, args, below, meth, c, D, dA, ids, ad, A, cs0, nL, Q⟩ := X
  obtain ⟨hx, hb, -⟩ := hc
  intro H locs ls hP hD hS hv
  exact lv_aload_n hx hb dg rfl (lv_at hv n hn) (k H locs ls hP hD hS hv)
theorem g_ast (hc : zGx K mc ms X) {q : Fin 4} {x : Nat} (hl : (((q : Nat), Value.ref x) :: lv.filter (fun r => !(r.1 == (q : Nat)) && !(r.1 + 1 == (q : Nat) && r.2.category == 2))) = lv') (hq : (q : Nat) < K.2.1) (dg : decode K.1 pc = .ok (.astore_n q, 1)) (k : zJG X ws cs (pc + 1) lv' st) : zJG X ws cs pc lv (.ref x :: st) := by
  obtain ⟨p, l, e, R, s, m, args, below, meth, c, D, dA, ids, ad, A, cs0, nL, Q⟩ := X
  obtain ⟨hx, hb, -, -, -, -, -, -, -, -, -, -, -, -, hnl, -⟩ := hc
  intro H locs ls hP hD hS hv
  exact lv_astore_n hx hb dg rfl hv (by omega) hl (fun ls' h' => k H locs ls' hP hD hS h')
theorem g_ist (hc : zGx K mc ms X) {q : Fin 4} {x : Int32} (hl : (((q : Nat), Value.int x) :: lv.filter (fun r => !(r.1 == (q : Nat)) && !(r.1 + 1 == (q : Nat) && r.2.category == 2))) = lv') (hq : (q : Nat) < K.2.1) (dg : decode K.1 pc = .ok (.istore_n q, 1)) (k : zJG X ws cs (pc + 1) lv' st) : zJG X ws cs pc lv (.int x :: st) := by
  obtain ⟨p, l, e, R, s, m, args, below, meth, c, D, dA, ids, ad, A, cs0, nL, Q⟩ := X
  obtain ⟨hx, hb, -, -, -, -, -, -, -, -, -, -, -, -, hnl, -⟩ := hc
  intro H locs ls hP hD hS hv
  exact lv_istore_n hx hb dg rfl hv (by omega) hl (fun ls' h' => k H locs ls' hP hD hS h')
theorem g_dup (hc : zGx K mc ms X) {x : Nat} (dg : decode K.1 pc = .ok (.dup, 1)) (k : zJG X ws cs (pc + 1) lv (.ref x :: .ref x :: st)) : zJG X ws cs pc lv (.ref x :: st) := by
  obtain ⟨p, l, e, R, s, m, args, below, meth, c, D, dA, ids, ad, A, cs0, nL, Q⟩ := X
  obtain ⟨hx, hb, -⟩ := hc
  intro H locs ls hP hD hS hv
  exact lv_dup hx hb dg rfl (k H locs ls hP hD hS hv)
theorem g_obj (hc : zGx K mc ms X) {a idx : Nat} (hw : Cond.methodLink K.2.2.2.1 idx Lib.objectInit ∈ TB) (hi : Cond.instanceMethod Lib.objectInit ∈ TB) (hco : Cond.code Lib.objectInit ⟨#[0xb1]⟩ 1 none ∈ TB) (hd1 : 1 ≤ K.2.2.2.2.1) (hst : (st.map fun v => v.category).sum ≤ 8) (dg : decode K.1 pc = .ok (.invokespecial idx, 3)) (k : zJG X ws cs (pc + 3) lv st) : zJG X ws cs pc lv (.ref a :: st) := by
  obtain ⟨p, l, e, R, s, m, args, below, meth, c, D, dA, ids, ad, A, cs0, nL, Q⟩ := X
  obtain ⟨hx, hb, hml, -, -, hown, hts, -, -, hR1, hR2, -⟩ := hc
  intro H locs ls hP hD hS hv
  refine W.objInit hx hb hown (hts _ hw) (hts _ hi) (hts _ hco) rfl (by rw [hml]; exact hv.1) rfl dg (by omega) ?_ ?_
  · show 2 * 0 + _ + 12 ≤ _
    omega
  · exact k H locs ls hP hD hS hv
theorem g_new (hc : zGx K mc ms X) {C : String} {T : u_T} {N ci idx : Nat} (hin : ∀ w ∈ u_ws C T N, w ∈ TB) (ty : Nat → FieldType) (hty : ∀ k, k < N → parseFieldDescriptor (T k).2.2.1 = some (ty k)) (hw1 : Cond.classLink K.2.2.2.1 idx C ∈ TB) (hw2 : Cond.instantiable C N ∈ TB) (hw3 : Cond.initialized C ∈ TB) (hci : vwCl[ci]? = some (C, T, N)) {fs : List Value} (hfs : ∀ j, j < N → defaultValue (ty j) = vp_V fs j) (hcs : cs.1 + 1 ≤ mc ∧ cs.2 + N ≤ ms) (dg : decode K.1 pc = .ok (.new idx, 3)) (kk : ∀ q : Nat, zJG X (ws ++ [(q, .inr (ci, fs))]) (cs.1 + 1, cs.2 + N) (pc + 3) lv (.ref q :: st)) : zJG X ws cs pc lv st := by
  obtain ⟨p, l, e, R, s, m, args, below, meth, c, D, dA, ids, ad, A, cs0, nL, Q⟩ := X
  obtain ⟨hx, hb, hml, -, -, hown, hts, hK, hA0, -, -, hm1, hm2, -⟩ := hc
  intro H locs ls hP hD hS hv
  exact va_new hx hb hts hin ty hty hown (hts _ hw1) (hts _ hw2) (hts _ hw3) hK hP hD hS hA0 hci hfs (Nat.le_trans hcs.1 hm1) (Nat.le_trans hcs.2 hm2) dg (fun q H1 hP hD hS => kk q H1 locs ls hP hD hS hv)
theorem g_newa (hc : zGx K mc ms X) {atype : ArrayType} {n : Int} {N t : Nat} {ty : FieldType} (hty : newarray.typeOf atype = ty) (htt : t = 0 ∧ ty = .int ∨ t = 1 ∧ ty = .boolean) (hw : Cond.arrayClass ty ∈ TB) (hn : ¬ iI n < 0) (hN : (iI n).toNatClampNeg = N) (hbytes : N * 4 ≤ 536870912) (hcs : cs.1 + 1 ≤ mc ∧ cs.2 + N ≤ ms) (dg : decode K.1 pc = .ok (.newarray atype, 2)) (kk : ∀ q : Nat, zJG X (ws ++ [(q, .inl (zdA X t, N, .inl (fun _ => iI 0)))]) (cs.1 + 1, cs.2 + N) (pc + 2) lv (.ref q :: st)) : zJG X ws cs pc lv (.int (iI n) :: st) := by
  obtain ⟨p, l, e, R, s, m, args, below, meth, c, D, dA, ids, ad, A, cs0, nL, Q⟩ := X
  obtain ⟨hx, hb, hml, -, -, hown, hts, hK, hA0, -, -, hm1, hm2, -⟩ := hc
  intro H locs ls hP hD hS hv
  have hb4 : N * componentBytes ty ≤ 536870912 := by
    rcases htt with ⟨-, rfl⟩ | ⟨-, rfl⟩ <;> simp only [componentBytes] <;> omega
  refine va_newa (a0 := (N, .inl (fun _ => iI 0))) hx hb (by rw [hty]; exact hts _ hw) hty hK hP hD hS hA0 (fun cA => by rcases htt with ⟨-, rfl⟩ | ⟨-, rfl⟩ <;> rfl) hn hN hb4 (Nat.le_trans hcs.1 hm1) (Nat.le_trans hcs.2 hm2) dg (fun q cA H1 hK1 hP1 hD1 hS1 => ?_)
  have hcA : cA = dA t := by
    have h1 := (hK1.2 4 (cA, ty) (by simp [zty])).2
    rcases htt with ⟨rfl, rfl⟩ | ⟨rfl, rfl⟩
    · exact Option.some.inj (h1.symm.trans (hK.2 0 (dA 0, .int) rfl).2)
    · exact Option.some.inj (h1.symm.trans (hK.2 1 (dA 1, .boolean) rfl).2)
  subst hcA
  exact kk q H1 locs ls hP1 hD1 hS1 hv
theorem g_newq (hc : zGx K mc ms X) {n : Int} {N idx : Nat} (hw1 : Cond.classLink K.2.2.2.1 idx "CoastTiles$State" ∈ TB) (hn : ¬ iI n < 0) (hN : (iI n).toNatClampNeg = N) (hbytes : N * 4 ≤ 536870912) (hcs : cs.1 + 1 ≤ mc ∧ cs.2 + N ≤ ms) (dg : decode K.1 pc = .ok (.anewarray idx, 3)) (kk : ∀ q : Nat, zJG X (ws ++ [(q, .inl (zdA X 3, N, .inr (.inr (.inr (.inr (fun _ => none))))))]) (cs.1 + 1, cs.2 + N) (pc + 3) lv (.ref q :: st)) : zJG X ws cs pc lv (.int (iI n) :: st) := by
  obtain ⟨p, l, e, R, s, m, args, below, meth, c, D, dA, ids, ad, A, cs0, nL, Q⟩ := X
  obtain ⟨hx, hb, hml, -, -, hown, hts, hK, hA0, -, -, hm1, hm2, -, -, hAO, -⟩ := hc
  intro H locs ls hP hD hS hv
  refine va_newq hx hb hown (hts _ hw1) hAO hK hP hD hS hA0 hn hN hbytes (Nat.le_trans hcs.1 hm1) (Nat.le_trans hcs.2 hm2) dg (fun q cA H1 hK1 hP1 hD1 hS1 => ?_)
  have hcA : cA = dA 3 := by
    obtain ⟨-, -, -, -, -, h1⟩ := (hK1.2 4 (cA, .object "CoastTiles$State") (by simp [zty])).2
    obtain ⟨-, -, -, -, -, h2⟩ := (hK.2 3 (dA 3, .object "CoastTiles$State") rfl).2
    exact Option.some.inj (h1.symm.trans h2)
  subst hcA
  exact kk q H1 locs ls hP1 hD1 hS1 hv
theorem g_put (hc : zGx K mc ms X) {C : String} {T : u_T} {N ci j idx a : Nat} {fs : List Value} {v : Value} {ty0 : Nat → FieldType} (hty : ∀ k, k < N → parseFieldDescriptor (T k).2.2.1 = some (ty0 k)) (hnm : ∀ a, a < N → ∀ b, b < N → a ≠ b → (T a).2.1 ≠ (T b).2.1) (hci : vwCl[ci]? = some (C, T, N)) (hin : ∀ w ∈ u_ws C T N, w ∈ TB) (hjN : j < N) (hw : Cond.fieldLink K.2.2.2.1 idx (T j).1 (T j).2.1 (T j).2.2.1 ∈ TB) (hown1 : (T j).1 = K.2.2.2.1) (hret : K.2.2.1 = none)
    (hn : narrow (ty0 j) v = v) (hfit : fits (ty0 j) v = true) (i : Nat) (hi : ws[i]? = some (a, .inr (ci, fs))) (hlen : j < fs.length) (dg : decode K.1 pc = .ok (.putfield idx, 3)) (kk : zJG X (ws.set i (a, .inr (ci, fs.set j v))) cs (pc + 3) lv st) : zJG X ws cs pc lv (v :: .ref a :: st) := by
  obtain ⟨p, l, e, R, s, m, args, below, meth, c, D, dA, ids, ad, A, cs0, nL, Q⟩ := X
  obtain ⟨hx, hb, hml, -, -, hown, hts, hK, hA0, -, -, hm1, hm2, -, -, hAO, hin2⟩ := hc
  intro H locs ls hP hD hS hv
  cases hfin : (T j).2.2.2 with
  | false => exact va_put hx hb (ref := (T j).1) hts hin ty0 hty hnm hown hK hP hD hS i hi hci j hjN (hts _ hw) (fun _ h => h) hfin (hty j hjN) hn hfit hlen dg (fun H1 locs1 hP1 hD1 hS1 => kk H1 locs1 ls hP1 hD1 hS1 hv)
  | true => exact va_putF hx hb (ref := (T j).1) hts hin ty0 hty hnm hown hK hP hD hS i hi hci j hjN (hts _ hw) (fun _ h => h) hfin (hin2 hret) hown1 (hty j hjN) hn hfit hlen dg (fun H1 locs1 hP1 hD1 hS1 => kk H1 locs1 ls hP1 hD1 hS1 hv)
theorem g_get (hc : zGx K mc ms X) {C : String} {T : u_T} {N ci j idx a : Nat} {fs : List Value} {v : Value} (hci : vwCl[ci]? = some (C, T, N)) (hin : ∀ w ∈ u_ws C T N, w ∈ TB) (hjN : j < N) (hw : Cond.fieldLink K.2.2.2.1 idx (T j).1 (T j).2.1 (T j).2.2.1 ∈ TB) (i : Nat) (hi : ws[i]? = some (a, .inr (ci, fs))) (hv : fs[j]? = some v) (dg : decode K.1 pc = .ok (.getfield idx, 3)) (kk : zJG X ws cs (pc + 3) lv (v :: st)) : zJG X ws cs pc lv (.ref a :: st) := by
  obtain ⟨p, l, e, R, s, m, args, below, meth, c, D, dA, ids, ad, A, cs0, nL, Q⟩ := X
  obtain ⟨hx, hb, hml, -, -, hown, hts, hK, -⟩ := hc
  intro H locs ls hP hD hS hl
  exact va_get hx hb (ref := (T j).1) hts hin hown hK hP i hi hci j hjN (hts _ hw) (fun _ h => h) hv dg (kk H locs ls hP hD hS hl)
theorem g_astq (hc : zGx K mc ms X) {N a i v : Nat} {z : Int} {f : Nat → Option Nat} {fs : List Value} (i0 ik : Nat) (h0 : ws[i0]? = some (a, .inl (zdA X 3, N, .inr (.inr (.inr (.inr f)))))) (hk : ws[ik]? = some (v, .inr (3, fs))) (hin : vp_in (iI z) N) (hzi : (iI z).toNatClampNeg = i) (dg : decode K.1 pc = .ok (.aastore, 1)) (kk : zJG X (ws.set i0 (a, .inl (zdA X 3, N, .inr (.inr (.inr (.inr (va_up f i (some v)))))))) cs (pc + 1) lv st) : zJG X ws cs pc lv (.ref v :: .int (iI z) :: .ref a :: st) := by
  obtain ⟨p, l, e, R, s, m, args, below, meth, c, D, dA, ids, ad, A, cs0, nL, Q⟩ := X
  obtain ⟨hx, hb, hml, -, -, hown, hts, hK, -⟩ := hc
  subst hzi
  intro H locs ls hP hD hS hl
  exact va_astq hx hb hK hP hD hS i0 3 ik 3 h0 (r := (RX3, TX3, 5)) rfl hk rfl hin dg (fun H1 locs1 hP1 hD1 hS1 => kk H1 locs1 ls hP1 hD1 hS1 hl)
theorem g_goes {p : Program} {l : Launch} {e : Env} {R : Room} {s : State} {m : MethodId} {args : Array Value} {below : List Frame} {meth : Method} {c : Code} {D : va_G} {dA : Nat → ClassId} {A : Nat → Prop} {cs : Nat × Nat} {nL : Nat} {Q : State → Prop} {H : Heap} {locs : List Loc} {ls : Array Slot} {b ci mc' ms' : Nat} {fs : List Value} {rest st0 : List Value} {aa : Array Value} {Wd : (Nat → ClassId) → Nat → (Nat → Nat) → va_W} {wr : va_W}
    (hA0 : ∀ q, s.heap.size ≤ q → A q) (hP : va_P D vwCl ws H) (hD : va_D A ws) (hS : va_S A s.heap H locs) (hl : lv_has ls nL lv) (i : Nat) (hi : ws[i]? = some (b, .inr (ci, fs))) (isR : List Nat) (hnd : va_nd isR = true) (hni : i ∉ isR) (hR : isR.map (fun i => ws[i]?) = wr.map some)
    (hr : va_Run p l e R s m args below meth c H locs cs.1 cs.2 mc' ms' (F0 m pc ls st0) rest (va_Qv (fun _ : Nat → Nat => True) (fun a t => va_P D vwCl (Wd dA b a) t.heap ∧ va_D (va_A [(b, .inr (ci, fs))] H.size) (Wd dA b a)) (va_A [(b, .inr (ci, fs))] H.size) aa) (va_A [(b, .inr (ci, fs))] H.size))
    (kk : ∀ a : Nat → Nat, ∀ (H : Heap) (locs : List Loc) (ls : Array Slot), va_P D vwCl (wr ++ Wd dA b a) H → va_D A (wr ++ Wd dA b a) → va_S A s.heap H locs → lv_has ls nL lv → W p l e R s m args below meth c H locs (cs.1 + mc') (cs.2 + ms') Q (F0 m (pc + 3) ls rest)) : W p l e R s m args below meth c H locs cs.1 cs.2 Q (F0 m pc ls st0) := by
  have hFc := va_free (wc := [(b, .inr (ci, fs))]) hD hS hA0 [i] (by simp [hi])
  refine va_callv hr hS (fun q _ h => hFc q h) hFc (fun a t H1 locs1 ht hvm hw hB hz1 hk1 hS1 => ?_)
  obtain ⟨hP1, hD1⟩ := hB
  rw [ht] at hP1
  obtain ⟨hP2, hD2⟩ := va_join (wr := wr) (w1 := Wd dA b a) hP hD [i] isR (by simp [hi]) hR hnd (fun j hj hj2 => hni (by rw [List.mem_singleton.mp hj2] at hj; exact hj)) hk1 hFc hP1 hD1
  exact kk a H1 locs1 ls hP2 hD2 hS1 hl
theorem g_pre {s : State} {H : Heap} {D : va_G} {dA : Nat → ClassId} {A : Nat → Prop} {b ci i : Nat} {fs : List Value} (hP : va_P D vwCl ws H) (hD : va_D A ws) (hi : ws[i]? = some (b, .inr (ci, fs))) (hK : va_K D vwCl (zty dA) s) (hAO : va_AO "CoastTiles$State" s) (hNW : ∀ w ∈ zNW, va_Nw w s) :
    PreS s H (va_Pc [.ref b] (fun U => U.heap.size = H.size ∧ va_P D vwCl [(b, .inr (ci, fs))] U.heap ∧ va_K D vwCl (zty dA) U ∧ va_D (fun _ => True) [(b, .inr (ci, fs))] ∧ va_AO "CoastTiles$State" U ∧ ∀ w ∈ zNW, va_Nw w U)) [.ref b] := by
  have hPc := hP.sub (ws' := [(b, .inr (ci, fs))]) [i] (by simp [hi])
  have hDc := (hD.sub (ws' := [(b, .inr (ci, fs))]) [i] (by simp [va_nd]) (by simp [hi])).weaken (A := A) (B := fun _ => True) (fun _ _ _ _ => trivial)
  refine ⟨fun a U g mk q => ?_, fun U hU hW => ⟨rfl, by rw [hU], by rw [hU]; exact hPc, va_K.moved hW.alike hK, hDc, va_AO.moved hW.alike hAO, fun w hw => zN_warm hW hw (hNW w hw)⟩⟩
  obtain ⟨q0, q1, qP, qK, qD, qO, qN⟩ := q
  exact ⟨q0, q1, qP, va_K.moved (u := U) (U := U.calling g mk a) (Vm.Alike.refl U.vm) qK, qD, va_AO.moved (u := U) (U := U.calling g mk a) (Vm.Alike.refl U.vm) qO, fun w hw => zN_same (s := U) (U := U.calling g mk a) rfl hw (qN w hw)⟩
theorem g_call {y : MethodName} {ci idx b mc' ms' : Nat} {fs : List Value} {Wd : (Nat → ClassId) → Nat → (Nat → Nat) → va_W} {wr : va_W} (hc : zGx K mc ms X) (hct : zNt y K' mc' ms' ci fs Wd) (hk : zOk y K' 0) (hret : K'.2.2.1 = none) (hd : K'.2.2.2.2.1 + 1 ≤ K.2.2.2.2.1) (hw : Cond.methodLink K.2.2.2.1 idx y ∈ TB) (hins : Cond.instanceMethod y ∈ TB) (hy1 : y.name = "<init>") (i : Nat) (hi : ws[i]? = some (b, .inr (ci, fs))) (isR : List Nat) (hnd : va_nd isR = true) (hni : i ∉ isR) (hR : isR.map (fun i => ws[i]?) = wr.map some) (hroom : (st.map fun v => v.category).sum ≤ 8) (hcs : cs.1 + mc' ≤ mc ∧ cs.2 + ms' ≤ ms) (dg : decode K.1 pc = .ok (.invokespecial idx, 3)) (kk : ∀ a : Nat → Nat, zJG X (wr ++ Wd (zdA X) b a) (cs.1 + mc', cs.2 + ms') (pc + 3) lv st) : zJG X ws cs pc lv (.ref b :: st) := by
  obtain ⟨p, l, e, R, s, m, args, below, meth, c, D, dA, ids, ad, A, cs0, nL, Q⟩ := X
  obtain ⟨hx, hb, hml, -, -, hown, hts, hK, hA0, hR1, hR2, hm1, hm2, hNW, hnl, hAO, -⟩ := hc
  obtain ⟨h1, h2, h3, h4, h5⟩ := hk
  rw [hret] at h3
  intro H locs ls hP hD hS hl
  have hcB : CallB R s args K.2.2.2.1 idx y K'.1 K'.2.1 none (.code y K'.1 K'.2.1 none :: TB) { frames := K'.2.2.2.2.1, cells := mc', slots := ms', locals := 39 * K'.2.2.2.2.1 } mc' ms' 0 := by
    refine ⟨rfl, rfl, Nat.le_trans hd hR1, ?_, ?_, List.mem_cons_self, hts _ h3, hts _ h2, h4, fun sig h => ?_, hts _ hw⟩
    · show 8 + (K'.2.1 + 11) + 39 * K'.2.2.2.2.1 ≤ R.locals
      omega
    · intro w hw a' U hW
      rcases List.mem_cons.mp hw with rfl | hw
      · exact zTB_in hW h3 (hts _ h3)
      · exact zTB_in hW hw (hts _ hw)
    · rw [h] at h5
      exact (Option.some.inj h5).symm
  exact g_goes hA0 hP hD hS hl i hi isR hnd hni hR (va_runI (As := []) (rest := st) ⟨hx, hb, hml, hown, hts⟩ (hct l D dA b H.size) ⟨hcB, hy1, hts _ hins⟩ (g_pre hP hD hi hK hAO hNW) rfl rfl hl.1 rfl (lv_room hroom) dg ⟨Nat.le_trans hcs.1 hm1, Nat.le_trans hcs.2 hm2⟩) kk
theorem g_callN {y : MethodName} {host : String} {ci idx b mc' ms' : Nat} {fs : List Value} {Wd : (Nat → ClassId) → Nat → (Nat → Nat) → va_W} {wr : va_W} (hc : zGx K mc ms X) (hct : zNt y K' mc' ms' ci fs Wd) (hk : zOk y K' 0) (hret : K'.2.2.1 = none) (hd : K'.2.2.2.2.1 + 1 ≤ K.2.2.2.2.1) (hw : Cond.methodLinkNest K.2.2.2.1 idx y host ∈ zNW) (hins : Cond.instanceMethod y ∈ TB) (hy1 : y.name = "<init>") (i : Nat) (hi : ws[i]? = some (b, .inr (ci, fs))) (isR : List Nat) (hnd : va_nd isR = true) (hni : i ∉ isR) (hR : isR.map (fun i => ws[i]?) = wr.map some) (hroom : (st.map fun v => v.category).sum ≤ 8) (hcs : cs.1 + mc' ≤ mc ∧ cs.2 + ms' ≤ ms) (dg : decode K.1 pc = .ok (.invokespecial idx, 3)) (kk : ∀ a : Nat → Nat, zJG X (wr ++ Wd (zdA X) b a) (cs.1 + mc', cs.2 + ms') (pc + 3) lv st) : zJG X ws cs pc lv (.ref b :: st) := by
  obtain ⟨p, l, e, R, s, m, args, below, meth, c, D, dA, ids, ad, A, cs0, nL, Q⟩ := X
  obtain ⟨hx, hb, hml, -, -, hown, hts, hK, hA0, hR1, hR2, hm1, hm2, hNW, hnl, hAO, -⟩ := hc
  obtain ⟨h1, h2, h3, h4, h5⟩ := hk
  rw [hret] at h3
  intro H locs ls hP hD hS hl
  have hcB : va_CN R s args K.2.2.2.1 idx y host K'.1 K'.2.1 none (.code y K'.1 K'.2.1 none :: TB) { frames := K'.2.2.2.2.1, cells := mc', slots := ms', locals := 39 * K'.2.2.2.2.1 } mc' ms' 0 := by
    refine ⟨⟨rfl, rfl, Nat.le_trans hd hR1, ?_, ?_, List.mem_cons_self⟩, hts _ h3, hts _ h2, h4, fun sig h => ?_, zN_use hw (hNW _ hw)⟩
    · show 8 + (K'.2.1 + 11) + 39 * K'.2.2.2.2.1 ≤ R.locals
      omega
    · intro w hw a' U hW
      rcases List.mem_cons.mp hw with rfl | hw
      · exact zTB_in hW h3 (hts _ h3)
      · exact zTB_in hW hw (hts _ hw)
    · rw [h] at h5
      exact (Option.some.inj h5).symm
  exact g_goes hA0 hP hD hS hl i hi isR hnd hni hR (va_runIN (As := []) (rest := st) ⟨hx, hb, hml, hown, hts⟩ (hct l D dA b H.size) ⟨hcB, hy1, hts _ hins⟩ (g_pre hP hD hi hK hAO hNW) rfl rfl hl.1 rfl (lv_room hroom) dg ⟨Nat.le_trans hcs.1 hm1, Nat.le_trans hcs.2 hm2⟩) kk
theorem g_ret {b : Nat} {Wd : (Nat → ClassId) → Nat → (Nat → Nat) → va_W} (hc : zGx K mc ms X) (hE : zGE mc ms b Wd X) (a : Nat → Nat) (is : List Nat) (hnd : va_nd is = true) (hws : is.map (fun i => ws[i]?) = (Wd (zdA X) b a).map some) (hret : K.2.2.1 = none) (hcs : cs.1 ≤ mc ∧ cs.2 ≤ ms) (dg : decode K.1 pc = .ok (.return_, 1)) : zJG X ws cs pc lv [] := by
  obtain ⟨p, l, e, R, s, m, args, below, meth, c, D, dA, ids, ad, A, cs0, nL, Q⟩ := X
  obtain ⟨hx, hb, hml, hr, hlocks, -⟩ := hc
  obtain ⟨hE1, hE2, rfl⟩ := hE
  intro H locs ls hP hD hS hl
  have hws : is.map (fun i => ws[i]?) = (Wd dA b a).map some := hws
  have hP9 : va_P D vwCl (Wd dA b a) H := fun k q hk => by
    have h1 : (is.map (fun i => ws[i]?))[k]? = some (some q) := by rw [hws, List.getElem?_map, hk]; rfl
    rw [List.getElem?_map] at h1
    cases h2 : is[k]? with
    | none => rw [h2] at h1; cases h1
    | some i => rw [h2] at h1; exact hP i q (Option.some.inj h1)
  have hD9 := hD.sub is hnd hws
  refine W.widen (k := mc) (n := ms) hcs.1 hcs.2 ?_
  exact W.vret hx hb (by rw [hr]; exact hret) (fun t ht hW => ⟨⟨a, rfl, trivial, by rw [ht]; exact hP9, hD9⟩, hS.F ht⟩) hS.2.2 dg hlocks
/-- into the machine of cells, and back -/
def zXM (X : CX) (ids : List Nat) (ad : Nat → Nat) (cs : Nat × Nat) : CX := match X with
  | (p, l, e, R, s, m, args, below, meth, c, D, dA, _, _, A, _, nL, Q) => (p, l, e, R, s, m, args, below, meth, c, D, dA, ids, ad, A, cs, nL, Q)
theorem g_toM {mlv : List (Nat × MV)} {mst : List MV} {M : Mem} (hc : zGx K mc ms X) (ids : List Nat) (ad : Nat → Nat) (hws : ws = zWo ids ad (zdA X) M) (hnod : ids.Nodup) (hfl : ∀ k, K.2.2.2.2.2.1 k = true → k ∈ ids) (hsta : K.2.2.2.2.2.2 = false) (hcs : cs.1 ≤ mc ∧ cs.2 ≤ ms) (hlv : lv = mlv.map fun q => (q.1, zen ad q.2)) (hst : st = mst.map (zen ad)) (kk : zCx K (zXM X ids ad cs) → zJW (zXM X ids ad cs) pc mlv mst M) : zJG X ws cs pc lv st := by
  obtain ⟨p, l, e, R, s, m, args, below, meth, c, D, dA, ids0, ad0, A, cs0, nL, Q⟩ := X
  obtain ⟨hx, hb, hml, hr, hlocks, hown, hts, hK, hA0, hR1, hR2, hm1, hm2, hNW, hnl, hAO, -⟩ := hc
  subst hws hlv hst
  intro H locs ls hP hD hS hl
  refine kk ⟨hx, hb, hml, hr, hlocks, hown, hts, hK, hA0, fun i hi => ?_, fun i hi j hj hij => ?_, hnod, hfl, fun h => (by rw [hsta] at h; cases h), hR1, hR2, Nat.le_trans hcs.1 hm1, Nat.le_trans hcs.2 hm2, hNW, hnl⟩ H locs ls hP hS hl
  · obtain ⟨q, -, h2⟩ := zWo_at hi ad dA M
    exact hD.2 q _ h2
  · obtain ⟨q, h1, h2⟩ := zWo_at hi ad dA M
    obtain ⟨q', h1', h2'⟩ := zWo_at hj ad dA M
    have hqq := hD.1 q q' _ _ h2 h2' hij
    subst hqq
    exact Option.some.inj (h1.symm.trans h1')
theorem g_toG {ids : List Nat} {ad : Nat → Nat} {mlv : List (Nat × MV)} {mst : List MV} {M : Mem} (hcx : zCx K (zXM X ids ad cs)) (kk : zJG X (zWo ids ad (zdA X) M) cs pc (mlv.map fun q => (q.1, zen ad q.2)) (mst.map (zen ad))) : zJW (zXM X ids ad cs) pc mlv mst M := by
  obtain ⟨p, l, e, R, s, m, args, below, meth, c, D, dA, ids0, ad0, A, cs0, nL, Q⟩ := X
  obtain ⟨-, -, -, -, -, -, -, -, -, hA, hinj, hnod, -⟩ := hcx
  intro H locs ls hP hS hl
  exact kk H locs ls hP (zWo_D hA hinj hnod dA M) hS hl
end ZG
