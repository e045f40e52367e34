section ZC
variable {K K' : Kp} {X : CX} {pc : Nat} {lv lv' : List (Nat × MV)} {st : List MV} {M M' : Mem}
theorem zsl_len (ad : Nat → Nat) : ∀ As : List MV, (lg_sl (As.map (zen ad))).length = (As.map zcat).sum
  | [] => rfl
  | v :: t => by
    have h := zsl_len ad t
    unfold lg_sl at h ⊢
    rw [List.map_cons, List.flatMap_cons, List.length_append, h, List.map_cons, List.sum_cons, zcat_eq]
    rcases v with z | k | f | x <;> rfl
theorem z_met {y : MethodName} {As : List MV} {Qc : Option Int → Mem → Prop} (hy : plainName y.cls = true) (ho : K.2.2.2.1 = y.cls) (hlen : (As.map zcat).sum ≤ K.2.1) (body : ∀ X, zCx K X → zEnd Qc X → zJW X 0 (zargs 0 As) [] M) : zCt y K As M Qc := by
  intro l D dA ids ad sz hfl hnod hinj
  refine Met.ofW (cc := K.1) (maxL := K.2.1) (ret := K.2.2.1) hy rfl ?_
  intro p e s m args below meth c s₁ B hml hv
  obtain ⟨hargs, hsz, hP, hK, hSt, hNW⟩ := hv
  have hts := atoms_spec (ws := .code y K.1 K.2.1 K.2.2.1 :: TB) B.pre
  have hown : s.vm.findClass y.cls = some m.cls := findClass_of_methodNamed B.named
  subst hsz
  have hz := body (p, l, e, zRm K.2.2.2.2.1, s, m, args, below, meth, c, D, dA, ids, ad, zA ids ad s.heap.size, (0, 0), K.2.1, MQ below (zQ D dA ids ad Qc (zA ids ad s.heap.size)) args s 0 0 (zA ids ad s.heap.size))
    ⟨B.exec, B.bytes, hml, B.returns, B.notSynchronized, by rw [ho]; exact hown, fun w hw => hts w (List.mem_cons_of_mem _ hw), hK, fun q h => Or.inr h, fun i hi => Or.inl ⟨i, hi, rfl⟩, hinj, hnod, hfl, hSt, Nat.le_refl _, Nat.le_refl _, Nat.zero_le _, Nat.zero_le _, hNW, rfl⟩ ⟨rfl, rfl⟩
  have hl := lv_entry (As.map (zen ad)) (n := K.2.1) (by rw [zsl_len]; exact hlen)
  rw [← zargs_map] at hl
  rw [hargs, lg_entry_eq]
  rw [hargs] at hz
  exact hz s.heap [] _ hP va_S.rf hl
def zans : Option Int → List MV := fun r => match r with
  | none => []
  | some z => [zI z]
theorem zans_en (ad : Nat → Nat) (r : Option Int) : (r.map fun z => Value.int (iI z)).toList = (zans r).map (zen ad) := by cases r <;> rfl
theorem z_goes {p : Program} {l : Launch} {e : Env} {R : Room} {s : State} {m : MethodId} {args : Array Value} {below : List Frame} {meth : Method} {c : Code} {H : Heap} {locs : List Loc} {cells slots : Nat} {Q : State → Prop} {ls : Array Slot} {rest st0 : List Value} {a : Array Value} {A0 A1 : Nat → Prop} {H0 : Heap} {free : Addr → Prop} {D : va_G} {dA : Nat → ClassId} {ids : List Nat} {ad : Nat → Nat} {Qc : Option Int → Mem → Prop}
    (hr : va_Run p l e R s m args below meth c H locs cells slots 0 0 (F0 m pc ls st0) rest (zQ D dA ids ad Qc A1 a) free) (hS : va_S A0 H0 H locs) (hA : ∀ q, q < H.size → A1 q → A0 q) (hf : ∀ q, free q → A0 q)
    (kk : ∀ (r : Option Int) (M' : Mem) (H1 : Heap) (locs1 : List Loc), Qc r M' → va_P D vwCl (zWo ids ad dA M') H1 → va_S A0 H0 H1 locs1 → W p l e R s m args below meth c H1 locs1 cells slots Q (F0 m (pc + 3) ls ((r.map fun z => Value.int (iI z)).toList ++ rest))) : W p l e R s m args below meth c H locs cells slots Q (F0 m pc ls st0) := by
  intro T hT X
  obtain ⟨v, st₀, t, T', L, h0, X', hL, e1, e2, ⟨⟨r, M', hv, hq, hp⟩, hz, hk⟩, st⟩ := hr T hT X
  have hv : v = r.map fun z => Value.int (iI z) := by injection hv
  subst hv
  rw [h0] at hz hk
  obtain ⟨t2, a1, b1⟩ := kk r M' T'.heap (locs ++ L) hq (by rw [e1]; exact hp)
    ⟨Nat.le_trans hS.1 (by rw [e1]; exact hz), fun q h1 h2 => by rw [e1, hk q (Nat.lt_of_lt_of_le h1 hS.1) (fun z => h2 (hA q (Nat.lt_of_lt_of_le h1 hS.1) z))]; exact hS.2.1 q h1 h2, fun q hq => by
      rcases List.mem_append.mp hq with h | h
      · exact hS.2.2 q h
      · exact hf _ (hL q h)⟩ T' rfl X'
  exact ⟨t2, st t2 a1, b1⟩
/-- what every caller wants of a callee's own row -/
def zOk (y : MethodName) (K : Kp) (n : Nat) : Prop := K.2.1 ≤ 20 ∧ Cond.initialized y.cls ∈ TB ∧ Cond.code y K.1 K.2.1 K.2.2.1 ∈ TB ∧ (y.cls ≠ "java/lang/invoke/MethodHandle" ∧ y.cls ≠ "java/lang/invoke/VarHandle") ∧ (parseMethodDescriptor y.desc).map (fun d => d.parameters.length) = some n
/-- a callee wants no more than its caller has -/
def zFits (K' K : Kp) : Prop := K'.2.2.2.2.1 + 1 ≤ K.2.2.2.2.1 ∧ (∀ i, K'.2.2.2.2.2.1 i = true → K.2.2.2.2.2.1 i = true) ∧ (K'.2.2.2.2.2.2 = true → K.2.2.2.2.2.2 = true)
theorem z_callB {y : MethodName} {n idx : Nat} {own : String} {R : Room} {s : State} {args : Array Value} (hk : zOk y K' n) (hts : ∀ w ∈ TB, w.before args s = true) (hw : Cond.methodLink own idx y ∈ TB) {d : Nat} (hd : K'.2.2.2.2.1 + 1 ≤ d) (hR1 : d ≤ R.frames) (hR2 : 39 * d ≤ R.locals) :
    CallB R s args own idx y K'.1 K'.2.1 K'.2.2.1 (.code y K'.1 K'.2.1 K'.2.2.1 :: TB) (zRm K'.2.2.2.2.1) 0 0 n := by
  obtain ⟨h1, h2, h3, h4, h5⟩ := hk
  refine ⟨rfl, rfl, Nat.le_trans hd hR1, ?_, ?_, List.mem_cons_self, hts _ h3, hts _ h2, h4, fun sig h => ?_, hts _ hw⟩
  · show 8 + (K'.2.1 + 11) + 39 * K'.2.2.2.2.1 ≤ R.locals
    omega
  · intro w hw a' U hW
    rcases List.mem_cons.mp hw with rfl | hw
    · exact zTB_in hW h3 (hts _ h3)
    · exact zTB_in hW hw (hts _ hw)
  · rw [h] at h5
    exact (Option.some.inj h5).symm
theorem z_callBN {y : MethodName} {n idx : Nat} {own host : String} {R : Room} {s : State} {args : Array Value} (hk : zOk y K' n) (hts : ∀ w ∈ TB, w.before args s = true) (hw : (Cond.methodLinkNest own idx y host).before args s = true) {d : Nat} (hd : K'.2.2.2.2.1 + 1 ≤ d) (hR1 : d ≤ R.frames) (hR2 : 39 * d ≤ R.locals) :
    va_CN R s args own idx y host K'.1 K'.2.1 K'.2.2.1 (.code y K'.1 K'.2.1 K'.2.2.1 :: TB) (zRm K'.2.2.2.2.1) 0 0 n := by
  obtain ⟨h1, h2, h3, h4, h5⟩ := hk
  refine ⟨⟨rfl, rfl, Nat.le_trans hd hR1, ?_, ?_, List.mem_cons_self⟩, hts _ h3, hts _ h2, h4, fun sig h => ?_, hw⟩
  · show 8 + (K'.2.1 + 11) + 39 * K'.2.2.2.2.1 ≤ R.locals
    omega
  · intro w hw a' U hW
    rcases List.mem_cons.mp hw with rfl | hw
    · exact zTB_in hW h3 (hts _ h3)
    · exact zTB_in hW hw (hts _ hw)
  · rw [h] at h5
    exact (Option.some.inj h5).symm
theorem z_pre {s : State} {H : Heap} {locs : List Loc} {D : va_G} {dA : Nat → ClassId} {ids : List Nat} {ad : Nat → Nat} {A : Nat → Prop} {As : List MV} (hP : va_P D vwCl (zWo ids ad dA M) H) (hS : va_S A s.heap H locs) (hK : va_K D vwCl (zty dA) s) (hSt : K'.2.2.2.2.2.2 = true → zSta A s s.heap) (hA0 : ∀ q, s.heap.size ≤ q → A q) (hA : ∀ i ∈ ids, A (ad i)) (hNW : ∀ w ∈ zNW, va_Nw w s) :
    FrameBlind (va_Pc (As.map (zen ad)) (fun U => U.heap.size = H.size ∧ va_P D vwCl (zWo ids ad dA M) U.heap ∧ va_K D vwCl (zty dA) U ∧ (K'.2.2.2.2.2.2 = true → zSta (zA ids ad H.size) U U.heap) ∧ ∀ w ∈ zNW, va_Nw w U)) ∧
    (∀ U : State, U.heap = H → s.WarmedH U.vm → va_Pc (As.map (zen ad)) (fun U => U.heap.size = H.size ∧ va_P D vwCl (zWo ids ad dA M) U.heap ∧ va_K D vwCl (zty dA) U ∧ (K'.2.2.2.2.2.2 = true → zSta (zA ids ad H.size) U U.heap) ∧ ∀ w ∈ zNW, va_Nw w U) (As.map (zen ad)).toArray U) := by
  refine ⟨fun a U g mk q => ?_, fun U hU hW => ⟨rfl, by rw [hU], by rw [hU]; exact hP, va_K.moved hW.alike hK, fun h => ?_, fun w hw => zN_warm hW hw (hNW w hw)⟩⟩
  · obtain ⟨q0, q1, qP, qK, qS, qN⟩ := q
    exact ⟨q0, q1, qP, va_K.moved (u := U) (U := U.calling g mk a) (Vm.Alike.refl U.vm) qK, fun h => zSta.moved (u := U) (U := U.calling g mk a) (Vm.Alike.refl U.vm) (qS h), fun w hw => zN_same (s := U) (U := U.calling g mk a) rfl hw (qN w hw)⟩
  · rw [hU]
    refine ((zSta.moved hW.alike (hSt h)).kept hS.2.1).narrow (fun q hq => ?_)
    rcases hq with ⟨i, hi, rfl⟩ | hq
    · exact hA i hi
    · exact hA0 q (Nat.le_trans hS.1 hq)
theorem zA_sub {ids : List Nat} {ad : Nat → Nat} {A : Nat → Prop} {sz sz' : Nat} (hA0 : ∀ q, sz ≤ q → A q) (hA : ∀ i ∈ ids, A (ad i)) (h : sz ≤ sz') : ∀ q, zA ids ad sz' q → A q := by
  intro q hq
  rcases hq with ⟨i, hi, rfl⟩ | hq
  · exact hA i hi
  · exact hA0 q (Nat.le_trans h hq)
theorem z_callV {y : MethodName} {k ci idx n : Nat} {fs : List (Option Nat)} {T : u_T} {N : Nat} {As rest : List MV} {Qc : Option Int → Mem → Prop} (hc : zCx K X) (hct : zCt y K' (zR k :: As) M Qc) (hk : zOk y K' n) (hfit : zFits K' K) (hf : K.2.2.2.2.2.1 k = true) (ht : ztm k = some (ci, fs)) (hci : vwCl[ci]? = some (y.cls, T, N)) (hw : Cond.methodLink K.2.2.2.1 idx y ∈ TB) (hins : Cond.instanceMethod y ∈ TB) (hsel : Cond.selects y.cls y y ∈ TB) (hn : As.length = n) (hroom : (rest.map zcat).sum ≤ 8) (hst : st = As.reverse ++ zR k :: rest) (dg : decode K.1 pc = .ok (.invokevirtual idx, 3)) (kk : ∀ (r : Option Int) (M' : Mem), Qc r M' → zJW X (pc + 3) lv (zans r ++ rest) M') : zJW X pc lv st M := by
  obtain ⟨p, l, e, R, s, m, args, below, meth, c, D, dA, ids, ad, A, cs, nL, Q⟩ := X
  obtain ⟨hx, hb, hml, hret, hlk, hown, hts, hK, hA0, hA, hinj, hnod, hfl, hSt, hR1, hR2, hcs1, hcs2, hNW, hnl⟩ := hc
  intro H locs ls hP hS hv
  obtain ⟨q, hq0, hq⟩ := zWo_at (hfl k hf) ad dA M
  rw [zce_obj ht] at hq
  have hM := hct l D dA ids ad H.size (fun i hi => hfl i (hfit.2.1 i hi)) hnod hinj
  have hpre := z_pre (K' := K') (As := zR k :: As) hP hS hK (fun h => hSt (hfit.2.2 h)) hA0 hA hNW
  have hcB := z_callB hk hts hw hfit.1 hR1 hR2
  subst hst
  have hrun := va_runV (e := e) (meth := meth) (below := below) (H := H) (locs := locs) (cells := cs.1) (slots := cs.2) (b := ad k) (As := As.map (zen ad)) (rest := rest.map (zen ad)) (g := F0 m pc ls ((As.reverse ++ zR k :: rest).map (zen ad))) ⟨hx, hb, hml, hown, hts⟩ hM ⟨hcB, hts _ hins, hts _ hsel⟩ ⟨hpre.1, va_recv hK hP hci hq, hpre.2⟩ rfl (by rw [List.length_map]; exact hn) hv.1 (by rw [List.map_append, List.map_reverse]; rfl)
    (lv_room (by rw [List.map_map]; rw [show ((fun v => v.category) ∘ zen ad) = zcat from funext (zcat_eq ad)]; exact hroom)) dg ⟨hcs1, hcs2⟩
  refine z_goes hrun hS (fun q _ hq => zA_sub hA0 hA hS.1 q hq) (fun q hq => zA_sub hA0 hA hS.1 q hq) (fun r M' H1 locs1 hQ hP1 hS1 => ?_)
  rw [zans_en ad, ← List.map_append]
  exact kk r M' hQ H1 locs1 ls hP1 hS1 hv
theorem z_callS {y : MethodName} {idx n : Nat} {As rest : List MV} {Qc : Option Int → Mem → Prop} (hc : zCx K X) (hct : zCt y K' As M Qc) (hk : zOk y K' n) (hfit : zFits K' K) (hw : Cond.methodLink K.2.2.2.1 idx y ∈ TB) (hsta : Cond.static y ∈ TB) (hn : As.length = n) (hroom : (rest.map zcat).sum ≤ 8) (hst : st = As.reverse ++ rest) (dg : decode K.1 pc = .ok (.invokestatic idx, 3)) (kk : ∀ (r : Option Int) (M' : Mem), Qc r M' → zJW X (pc + 3) lv (zans r ++ rest) M') : zJW X pc lv st M := by
  obtain ⟨p, l, e, R, s, m, args, below, meth, c, D, dA, ids, ad, A, cs, nL, Q⟩ := X
  obtain ⟨hx, hb, hml, hret, hlk, hown, hts, hK, hA0, hA, hinj, hnod, hfl, hSt, hR1, hR2, hcs1, hcs2, hNW, hnl⟩ := hc
  intro H locs ls hP hS hv
  have hM := hct l D dA ids ad H.size (fun i hi => hfl i (hfit.2.1 i hi)) hnod hinj
  have hpre := z_pre (K' := K') (As := As) hP hS hK (fun h => hSt (hfit.2.2 h)) hA0 hA hNW
  have hcB := z_callB hk hts hw hfit.1 hR1 hR2
  subst hst
  have hrun := va_runS (e := e) (meth := meth) (below := below) (H := H) (locs := locs) (cells := cs.1) (slots := cs.2) (As := As.map (zen ad)) (rest := rest.map (zen ad)) (g := F0 m pc ls ((As.reverse ++ rest).map (zen ad))) ⟨hx, hb, hml, hown, hts⟩ hM ⟨hcB, hts _ hsta⟩ hpre rfl (by rw [List.length_map]; exact hn) hv.1 (by rw [List.map_append, List.map_reverse])
    (lv_room (by rw [List.map_map]; rw [show ((fun v => v.category) ∘ zen ad) = zcat from funext (zcat_eq ad)]; exact hroom)) dg ⟨hcs1, hcs2⟩
  refine z_goes hrun hS (fun q _ hq => zA_sub hA0 hA hS.1 q hq) (fun q hq => zA_sub hA0 hA hS.1 q hq) (fun r M' H1 locs1 hQ hP1 hS1 => ?_)
  rw [zans_en ad, ← List.map_append]
  exact kk r M' hQ H1 locs1 ls hP1 hS1 hv
theorem z_callSN {y : MethodName} {idx n : Nat} {host : String} {As rest : List MV} {Qc : Option Int → Mem → Prop} (hc : zCx K X) (hct : zCt y K' As M Qc) (hk : zOk y K' n) (hfit : zFits K' K) (hw : Cond.methodLinkNest K.2.2.2.1 idx y host ∈ zNW) (hsta : Cond.static y ∈ TB) (hn : As.length = n) (hroom : (rest.map zcat).sum ≤ 8) (hst : st = As.reverse ++ rest) (dg : decode K.1 pc = .ok (.invokestatic idx, 3)) (kk : ∀ (r : Option Int) (M' : Mem), Qc r M' → zJW X (pc + 3) lv (zans r ++ rest) M') : zJW X pc lv st M := by
  obtain ⟨p, l, e, R, s, m, args, below, meth, c, D, dA, ids, ad, A, cs, nL, Q⟩ := X
  obtain ⟨hx, hb, hml, hret, hlk, hown, hts, hK, hA0, hA, hinj, hnod, hfl, hSt, hR1, hR2, hcs1, hcs2, hNW, hnl⟩ := hc
  intro H locs ls hP hS hv
  have hM := hct l D dA ids ad H.size (fun i hi => hfl i (hfit.2.1 i hi)) hnod hinj
  have hpre := z_pre (K' := K') (As := As) hP hS hK (fun h => hSt (hfit.2.2 h)) hA0 hA hNW
  have hcB := z_callBN (host := host) hk hts (zN_use hw (hNW _ hw)) hfit.1 hR1 hR2
  subst hst
  have hrun := va_runSN (e := e) (meth := meth) (below := below) (H := H) (locs := locs) (cells := cs.1) (slots := cs.2) (As := As.map (zen ad)) (rest := rest.map (zen ad)) (g := F0 m pc ls ((As.reverse ++ rest).map (zen ad))) ⟨hx, hb, hml, hown, hts⟩ hM ⟨hcB, hts _ hsta, trivial⟩ hpre rfl (by rw [List.length_map]; exact hn) hv.1 (by rw [List.map_append, List.map_reverse])
    (lv_room (by rw [List.map_map]; rw [show ((fun v => v.category) ∘ zen ad) = zcat from funext (zcat_eq ad)]; exact hroom)) dg ⟨hcs1, hcs2⟩
  refine z_goes hrun hS (fun q _ hq => zA_sub hA0 hA hS.1 q hq) (fun q hq => zA_sub hA0 hA hS.1 q hq) (fun r M' H1 locs1 hQ hP1 hS1 => ?_)
  rw [zans_en ad, ← List.map_append]
  exact kk r M' hQ H1 locs1 ls hP1 hS1 hv
end ZC
