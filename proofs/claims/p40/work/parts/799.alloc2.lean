/-- a method that makes arrays: at most mc of them, of ms slots -/
def zCtA (y : MethodName) (K : Kp) (mc ms : Nat) (As : List MV) (M : Mem) (Q : Option Int → Mem → Prop) : Prop := ∀ (l : Launch) (D : va_G) (dA : Nat → ClassId) (ids : List Nat) (ad : Nat → Nat) (sz : Nat),
  (∀ k, K.2.2.2.2.2.1 k = true → k ∈ ids) → ids.Nodup → (∀ i ∈ ids, ∀ j ∈ ids, ad i = ad j → i = j) → (∀ i ∈ ids, i < 43) →
  Met l y (.code y K.1 K.2.1 K.2.2.1 :: TB) { frames := K.2.2.2.2.1, cells := mc, slots := ms, locals := 39 * K.2.2.2.2.1 } (va_Pc (As.map (zen ad)) (fun U => U.heap.size = sz ∧ va_P D vwCl (zWo ids ad dA M) U.heap ∧ va_K D vwCl (zty dA) U ∧ (K.2.2.2.2.2.2 = true → zSta (zA ids ad sz) U U.heap) ∧ ∀ w ∈ zNW, va_Nw w U))
    (zQ D dA ids ad Q (zA ids ad sz)) mc ms (zA ids ad sz)
def zEndA (mc ms : Nat) (Qc : Option Int → Mem → Prop) (X : CX) : Prop := match X with
  | (p, l, e, R, s, m, args, below, meth, c, D, dA, ids, ad, A, cs, nL, Z) => (∀ i ∈ ids, i < 43) ∧ cs = (0, 0) ∧ R.cells = mc ∧ R.slots = ms ∧ Z = MQ below (zQ D dA ids ad Qc A) args s mc ms A
section ZAB
variable {K K' : Kp} {X X0 : CX} {pc : Nat} {lv lv' : List (Nat × MV)} {st : List MV} {M M' : Mem} {b c s : Nat}
theorem zEndA.al {mc ms b : Nat} {Qc : Option Int → Mem → Prop} (h : zEndA mc ms Qc X) (hb : 43 ≤ b) : zAl b 0 0 X X := by
  obtain ⟨p, l, e, R, s_, m, args, below, meth, cd, D, dA, ids, ad, A, cs, nL, Q⟩ := X
  exact ⟨ids, ad, cs, rfl, Nat.le_refl _, Nat.le_refl _, fun i hi => Nat.lt_of_lt_of_le (h.1 i hi) hb, fun i hi => ⟨hi, rfl⟩, fun _ _ => rfl, rfl⟩
theorem zEndA.cap {mc ms : Nat} {Qc : Option Int → Mem → Prop} (h : zEndA mc ms Qc X) : zCap X mc ms := by
  obtain ⟨p, l, e, R, s_, m, args, below, meth, cd, D, dA, ids, ad, A, cs, nL, Q⟩ := X
  obtain ⟨-, rfl, h1, h2, -⟩ := h
  refine ⟨?_, ?_⟩
  · show 0 + mc ≤ R.cells
    omega
  · show 0 + ms ≤ R.slots
    omega
theorem zEndA.ni {mc ms k : Nat} {Qc : Option Int → Mem → Prop} (h : zEndA mc ms Qc X) (hk : 43 ≤ k) : zNI k X := by
  obtain ⟨p, l, e, R, s_, m, args, below, meth, cd, D, dA, ids, ad, A, cs, nL, Q⟩ := X
  intro hi
  have := h.1 k hi
  omega
theorem z_metA {y : MethodName} {mc ms : Nat} {As : List MV} {Qc : Option Int → Mem → Prop} (hy : plainName y.cls = true) (ho : K.2.2.2.1 = y.cls) (hlen : (As.map zcat).sum ≤ K.2.1) (body : ∀ X, zCx K X → zEndA mc ms Qc X → zJW X 0 (zargs 0 As) [] M) : zCtA y K mc ms As M Qc := by
  intro l D dA ids ad sz hfl hnod hinj h43
  refine Met.ofW (cc := K.1) (maxL := K.2.1) (ret := K.2.2.1) hy rfl ?_
  intro p e s m args below meth c s₁ B hml hv
  obtain ⟨hargs, hsz, hP, hK, hSt, hNW⟩ := hv
  have hts := atoms_spec (ws := .code y K.1 K.2.1 K.2.2.1 :: TB) B.pre
  have hown : s.vm.findClass y.cls = some m.cls := findClass_of_methodNamed B.named
  subst hsz
  have hz := body (p, l, e, { frames := K.2.2.2.2.1, cells := mc, slots := ms, locals := 39 * K.2.2.2.2.1 }, s, m, args, below, meth, c, D, dA, ids, ad, zA ids ad s.heap.size, (0, 0), K.2.1, MQ below (zQ D dA ids ad Qc (zA ids ad s.heap.size)) args s mc ms (zA ids ad s.heap.size))
    ⟨B.exec, B.bytes, hml, B.returns, B.notSynchronized, by rw [ho]; exact hown, fun w hw => hts w (List.mem_cons_of_mem _ hw), hK, fun q h => Or.inr h, fun i hi => Or.inl ⟨i, hi, rfl⟩, hinj, hnod, hfl, hSt, Nat.le_refl _, Nat.le_refl _, Nat.zero_le _, Nat.zero_le _, hNW, rfl⟩ ⟨h43, rfl, rfl, rfl, rfl⟩
  have hl := lv_entry (As.map (zen ad)) (n := K.2.1) (by rw [zsl_len]; exact hlen)
  rw [← zargs_map] at hl
  rw [hargs, lg_entry_eq]
  rw [hargs] at hz
  exact hz s.heap [] _ hP va_S.rf hl
/-- the end of a walk that made arrays: what it made is forgotten -/
theorem z_zretA {mc ms : Nat} {Qc : Option Int → Mem → Prop} {a : Int} {ty : FieldType} {M0 : Mem} (hc : zCx K X) (he : zEndA mc ms Qc X0) (ha : zAl b c s X0 X) (hcs : c ≤ mc ∧ s ≤ ms) (hr : K.2.2.1 = some ty) (hn : narrow ty (.int (iI a)) = .int (iI a)) (dg : decode K.1 pc = .ok (.ireturn, 1)) (h32 : ∀ j : Int, 0 ≤ j → j < 5 → 3 ≤ M 32 j ∧ M 32 j ≤ 7) (hM : ∀ i : Nat, i < 43 → M i = M0 i) (h : Qc (some a) M0) : zJW X pc lv [zI a] M := by
  obtain ⟨p, l, e, R, s_, m, args, below, meth, cd, D, dA, ids0, ad0, A, cs0, nL, Q⟩ := X0
  obtain ⟨ids, ad, cs, rfl, a1, a2, a3, a4, a5, a6⟩ := ha
  obtain ⟨hx, hb, -, hret, hlk, hown, hts, hK, hA0, hA, hinj, hnod, hfl, -⟩ := hc
  obtain ⟨h43, rfl, e1, e2, rfl⟩ := he
  intro H locs ls hP hS hv
  have a1 : cs.1 ≤ 0 + c := a1
  have a2 : cs.2 ≤ 0 + s := a2
  refine W.widen (k := mc) (n := ms) (by show cs.1 ≤ mc; omega) (by show cs.2 ≤ ms; omega) ?_
  refine W.zret (v := iI a) hx hb (hret.trans hr) hn (fun t ht hW => ⟨⟨some a, M0, rfl, h, ?_⟩, hS.F ht⟩) hS.2.2 dg hlk
  rw [ht]
  intro j w hj
  rw [zWo_get] at hj
  obtain ⟨i, hi, rfl⟩ := Option.map_eq_some_iff.mp hj
  have him := List.mem_of_getElem? hi
  obtain ⟨hi1, hi2⟩ := a4 i him
  obtain ⟨q, -, hq⟩ := zWo_at hi1 ad dA M
  have h1 := hP q _ hq
  have h2 := zat_ad (ad' := ad0) (fun j hj => (a5 j hj).symm) h32 i h1
  rw [hi2] at h2
  show va_at D vwCl (ad0 i, zce ad0 dA M0 i) H
  rw [← zce_congr (hM i (h43 i him))]
  exact h2
theorem z_goesA {p : Program} {l : Launch} {e : Env} {R : Room} {s : State} {m : MethodId} {args : Array Value} {below : List Frame} {meth : Method} {c : Code} {H : Heap} {locs : List Loc} {cells slots mc ms : Nat} {Q : State → Prop} {ls : Array Slot} {rest st0 : List Value} {a : Array Value} {A0 A1 : Nat → Prop} {H0 : Heap} {free : Addr → Prop} {D : va_G} {dA : Nat → ClassId} {ids : List Nat} {ad : Nat → Nat} {Qc : Option Int → Mem → Prop}
    (hr : va_Run p l e R s m args below meth c H locs cells slots mc ms (F0 m pc ls st0) rest (zQ D dA ids ad Qc A1 a) free) (hS : va_S A0 H0 H locs) (hA : ∀ q, q < H.size → A1 q → A0 q) (hf : ∀ q, free q → A0 q)
    (kk : ∀ (r : Option Int) (M' : Mem) (H1 : Heap) (locs1 : List Loc), Qc r M' → va_P D vwCl (zWo ids ad dA M') H1 → va_S A0 H0 H1 locs1 → (∀ q, q < H.size → ¬ A1 q → H1[q]? = H[q]?) → W p l e R s m args below meth c H1 locs1 (cells + mc) (slots + ms) Q (F0 m (pc + 3) ls ((r.map fun z => Value.int (iI z)).toList ++ rest))) : W p l e R s m args below meth c H locs cells slots Q (F0 m pc ls st0) := by
  intro T hT X
  obtain ⟨v, st₀, t, T', L, h0, X', hL, e1, e2, ⟨⟨r, M', hv, hq, hp⟩, hz, hk⟩, st⟩ := hr T hT X
  have hv : v = r.map fun z => Value.int (iI z) := by injection hv
  subst hv
  rw [h0] at hz hk
  obtain ⟨t2, a1, b1⟩ := kk r M' T'.heap (locs ++ L) hq (by rw [e1]; exact hp)
    ⟨Nat.le_trans hS.1 (by rw [e1]; exact hz), fun q h1 h2 => by rw [e1, hk q (Nat.lt_of_lt_of_le h1 hS.1) (fun z => h2 (hA q (Nat.lt_of_lt_of_le h1 hS.1) z))]; exact hS.2.1 q h1 h2, fun q hq => by
      rcases List.mem_append.mp hq with h | h
      · exact hS.2.2 q h
      · exact hf _ (hL q h)⟩ (fun q h1 h2 => by rw [e1]; exact hk q h1 h2) T' rfl X'
  exact ⟨t2, st t2 a1, b1⟩
theorem z_callSA {y : MethodName} {idx n mc' ms' : Nat} {As rest : List MV} {Qc : Option Int → Mem → Prop} (hc : zCx K X) (ha : zAl 43 c s X0 X) (hct : zCtA y K' mc' ms' As M Qc) (hk : zOk y K' n) (hfit : zFits K' K) (hw : Cond.methodLink K.2.2.2.1 idx y ∈ TB) (hsta : Cond.static y ∈ TB) (hn : As.length = n) (hroom : (rest.map zcat).sum ≤ 8) (hcap : zCap X0 (c + mc') (s + ms')) (hst : st = As.reverse ++ rest) (dg : decode K.1 pc = .ok (.invokestatic idx, 3)) (kk : ∀ (X' : CX) (r : Option Int) (M' : Mem), zCx K X' → zAl 43 (c + mc') (s + ms') X0 X' → Qc r M' → zJW X' (pc + 3) lv (zans r ++ rest) M') : zJW X pc lv st M := by
  obtain ⟨p, l, e, R, s_, m, args, below, meth, cd, D, dA, ids0, ad0, A, cs0, nL, Q⟩ := X0
  obtain ⟨ids, ad, cs, rfl, a1, a2, a3, a4⟩ := ha
  obtain ⟨hx, hb, hml, hret, hlk, hown, hts, hK, hA0, hA, hinj, hnod, hfl, hSt, hR1, hR2, hcs1, hcs2, hNW, hnl⟩ := hc
  have hcp1 : cs.1 + mc' ≤ R.cells := by have h := hcap.1; have h : cs0.1 + (c + mc') ≤ R.cells := h; omega
  have hcp2 : cs.2 + ms' ≤ R.slots := by have h := hcap.2; have h : cs0.2 + (s + ms') ≤ R.slots := h; omega
  intro H locs ls hP hS hv
  have hM := hct l D dA ids ad H.size (fun i hi => hfl i (hfit.2.1 i hi)) hnod hinj a3
  have hpre := z_pre (K' := K') (As := As) hP hS hK (fun h => hSt (hfit.2.2 h)) hA0 hA hNW
  obtain ⟨k1, k2, k3, k4, k5⟩ := hk
  have hd := hfit.1
  have hcB : CallB R s_ args K.2.2.2.1 idx y K'.1 K'.2.1 K'.2.2.1 (.code y K'.1 K'.2.1 K'.2.2.1 :: TB) { frames := K'.2.2.2.2.1, cells := mc', slots := ms', locals := 39 * K'.2.2.2.2.1 } mc' ms' n := by
    refine ⟨rfl, rfl, Nat.le_trans hd hR1, ?_, ?_, List.mem_cons_self, hts _ k3, hts _ k2, k4, fun sig h => ?_, hts _ hw⟩
    · show 8 + (K'.2.1 + 11) + 39 * K'.2.2.2.2.1 ≤ R.locals
      omega
    · intro w hw a' U hW
      rcases List.mem_cons.mp hw with rfl | hw
      · exact zTB_in hW k3 (hts _ k3)
      · exact zTB_in hW hw (hts _ hw)
    · rw [h] at k5
      exact (Option.some.inj k5).symm
  subst hst
  have hrun := va_runS (e := e) (meth := meth) (below := below) (H := H) (locs := locs) (cells := cs.1) (slots := cs.2) (As := As.map (zen ad)) (rest := rest.map (zen ad)) (g := F0 m pc ls ((As.reverse ++ rest).map (zen ad))) ⟨hx, hb, hml, hown, hts⟩ hM ⟨hcB, hts _ hsta⟩ hpre rfl (by rw [List.length_map]; exact hn) hv.1 (by rw [List.map_append, List.map_reverse])
    (lv_room (by rw [List.map_map]; rw [show ((fun v => v.category) ∘ zen ad) = zcat from funext (zcat_eq ad)]; exact hroom)) dg ⟨hcp1, hcp2⟩
  refine z_goesA hrun hS (fun q _ hq => zA_sub hA0 hA hS.1 q hq) (fun q hq => zA_sub hA0 hA hS.1 q hq) (fun r M' H1 locs1 hQ hP1 hS1 _ => ?_)
  rw [zans_en ad, ← List.map_append]
  exact kk (zXM (p, l, e, R, s_, m, args, below, meth, cd, D, dA, ids0, ad0, A, cs0, nL, Q) ids ad (cs.1 + mc', cs.2 + ms')) r M' ⟨hx, hb, hml, hret, hlk, hown, hts, hK, hA0, hA, hinj, hnod, hfl, hSt, hR1, hR2, hcp1, hcp2, hNW, hnl⟩
    ⟨ids, ad, (cs.1 + mc', cs.2 + ms'), rfl, by show cs.1 + mc' ≤ cs0.1 + (c + mc'); omega, by show cs.2 + ms' ≤ cs0.2 + (s + ms'); omega, a3, a4⟩ hQ H1 locs1 ls hP1 hS1 hv
/-- a loop whose turns make arrays -/
theorem z_forA (N : Nat) (lvf : Nat → List (Nat × MV)) (Mf : Nat → Mem) (dc ds : Nat) (I : Nat → Prop) (hc : zCx K X) (ha : zAl b c s X0 X) (h0 : lv = lvf 0) (hM : M = Mf 0) (hI : I 0) (hx : ∀ X, zCx K X → zAl b (c + N * dc) (s + N * ds) X0 X → I N → zJW X pc (lvf N) [] (Mf N))
    (hs : ∀ i, i < N → ∀ X, zCx K X → zAl b (c + i * dc) (s + i * ds) X0 X → I i → (∀ X, zCx K X → zAl b (c + (i * dc + dc)) (s + (i * ds + ds)) X0 X → I (i + 1) → zJW X pc (lvf (i + 1)) [] (Mf (i + 1))) → zJW X pc (lvf i) [] (Mf i)) : zJW X pc lv [] M := by
  have key : ∀ n, n ≤ N → ∀ X, zCx K X → zAl b (c + (N - n) * dc) (s + (N - n) * ds) X0 X → I (N - n) → zJW X pc (lvf (N - n)) [] (Mf (N - n)) := by
    intro n
    induction n with
    | zero => intro _ X h1 h2 h3; exact hx X h1 h2 h3
    | succ n ih =>
      intro h X h1 h2 h3
      refine hs _ (by omega) X h1 h2 h3 (fun X' g1 g2 g3 => ?_)
      have e : N - (n + 1) + 1 = N - n := by omega
      have e2 : ∀ d : Nat, (N - (n + 1)) * d + d = (N - n) * d := fun d => by rw [← e, Nat.add_mul, Nat.one_mul]
      rw [e2, e2] at g2
      rw [e] at g3 ⊢
      exact ih (by omega) X' g1 g2 g3
  rw [h0, hM]
  have := key N (Nat.le_refl N)
  rw [Nat.sub_self] at this
  exact this X hc (ha.le (Nat.le_add_right _ _) (Nat.le_add_right _ _)) hI
-- the script: a row that a method is given and only reads
def zSc (X : CX) (L : Nat) (xs : Nat → Int32) : Prop := match X with
  | (p, l, e, R, s, m, args, below, meth, c, D, dA, ids, ad, A, cs, nL, Q) => va_X (ad 60) L xs s s.heap ∧ ad 60 < s.heap.size ∧ ¬ A (ad 60)
def zsx (xs : Nat → Int32) (z : Int) : Int := (xs z.toNat).toInt
theorem zsx_bd (xs : Nat → Int32) (z : Int) : -2147483648 ≤ zsx xs z ∧ zsx xs z < 2147483648 := ⟨Int32.le_toInt _, Int32.toInt_lt _⟩
theorem zSc.al {L : Nat} {xs : Nat → Int32} (h : zSc X0 L xs) (ha : zAl b c s X0 X) : zSc X L xs := by
  obtain ⟨p, l, e, R, s_, m, args, below, meth, cd, D, dA, ids0, ad0, A, cs0, nL, Q⟩ := X0
  obtain ⟨ids, ad, cs, rfl, a1, a2, a3, a4, a5, a6⟩ := ha
  obtain ⟨h1, h2, h3⟩ := h
  exact ⟨by rw [a6]; exact h1, by rw [a6]; exact h2, by rw [a6]; exact h3⟩
theorem z_sld {L : Nat} {xs : Nat → Int32} (hc : zCx K X) (hs : zSc X L xs) {z : Int} (hz : 0 ≤ z ∧ z < L) (hL : L ≤ 260) (dg : decode K.1 pc = .ok (.iaload, 1)) (k : zJW X (pc + 1) lv (zI (zsx xs z) :: st) M) : zJW X pc lv (zI z :: zR 60 :: st) M := by
  obtain ⟨p, l, e, R, s, m, args, below, meth, c, D, dA, ids, ad, A, cs, nL, Q⟩ := X
  obtain ⟨hx, hb, -⟩ := hc
  obtain ⟨h1, h2, h3⟩ := hs
  intro H locs ls hP hS hv
  obtain ⟨i1, i2⟩ := iI_in (n := L) hz.1 hz.2 (by omega)
  refine va_sld hx hb h1 h2 h3 hS i1 dg ?_
  have e : Value.int (xs (iI z).toNatClampNeg) = zen ad (zI (zsx xs z)) := by
    show Value.int (xs (iI z).toNatClampNeg) = Value.int (iI (xs z.toNat).toInt)
    rw [iI_val]
    congr 2
    omega
  rw [e]
  exact k H locs ls hP hS hv
theorem z_slen {L : Nat} {xs : Nat → Int32} (hc : zCx K X) (hs : zSc X L xs) (dg : decode K.1 pc = .ok (.arraylength, 1)) (k : zJW X (pc + 1) lv (zI (L : Int) :: st) M) : zJW X pc lv (zR 60 :: st) M := by
  obtain ⟨p, l, e, R, s, m, args, below, meth, c, D, dA, ids, ad, A, cs, nL, Q⟩ := X
  obtain ⟨hx, hb, -⟩ := hc
  obtain ⟨h1, h2, h3⟩ := hs
  intro H locs ls hP hS hv
  refine va_slen hx hb h1 h2 h3 hS dg ?_
  have e : Value.int (Int32.ofNat L) = zen ad (zI (L : Int)) := by
    show Value.int (Int32.ofNat L) = Value.int (iI (L : Int))
    rw [iI_nI]
    rfl
  rw [e]
  exact k H locs ls hP hS hv
def zCtX (y : MethodName) (K : Kp) (L : Nat) (xs : Nat → Int32) (As : List MV) (Q : Option Int → Prop) : Prop := ∀ (l : Launch) (D : va_G) (dA : Nat → ClassId) (ad : Nat → Nat) (sz : Nat), ad 60 < sz →
  Met l y (.code y K.1 K.2.1 K.2.2.1 :: TB) (zRm K.2.2.2.2.1) (va_Pc (As.map (zen ad)) (fun U => U.heap.size = sz ∧ va_X (ad 60) L xs U U.heap ∧ va_K D vwCl (zty dA) U ∧ ∀ w ∈ zNW, va_Nw w U))
    (zQ D dA [] ad (fun r _ => Q r) (zA [] ad sz)) 0 0 (zA [] ad sz)
theorem z_metX {y : MethodName} {L : Nat} {xs : Nat → Int32} {As : List MV} {Qc : Option Int → Prop} (hy : plainName y.cls = true) (ho : K.2.2.2.1 = y.cls) (hlen : (As.map zcat).sum ≤ K.2.1) (hf : K.2.2.2.2.2.1 = zfl0) (hs : K.2.2.2.2.2.2 = false) (body : ∀ X, zCx K X → zSc X L xs → zEnd (fun r _ => Qc r) X → zJW X 0 (zargs 0 As) [] M) : zCtX y K L xs As Qc := by
  intro l D dA ad sz had
  refine Met.ofW (cc := K.1) (maxL := K.2.1) (ret := K.2.2.1) hy rfl ?_
  intro p e s m args below meth c s₁ B hml hv
  obtain ⟨hargs, hsz, hX, hK, hNW⟩ := hv
  have hts := atoms_spec (ws := .code y K.1 K.2.1 K.2.2.1 :: TB) B.pre
  have hown : s.vm.findClass y.cls = some m.cls := findClass_of_methodNamed B.named
  subst hsz
  have hz := body (p, l, e, zRm K.2.2.2.2.1, s, m, args, below, meth, c, D, dA, [], ad, zA [] ad s.heap.size, (0, 0), K.2.1, MQ below (zQ D dA [] ad (fun r _ => Qc r) (zA [] ad s.heap.size)) args s 0 0 (zA [] ad s.heap.size))
    ⟨B.exec, B.bytes, hml, B.returns, B.notSynchronized, by rw [ho]; exact hown, fun w hw => hts w (List.mem_cons_of_mem _ hw), hK, fun q h => Or.inr h, fun i hi => (by cases hi), fun i hi => (by cases hi), List.nodup_nil, fun k hk => (by rw [hf] at hk; cases hk), fun h => (by rw [hs] at h; cases h), Nat.le_refl _, Nat.le_refl _, Nat.zero_le _, Nat.zero_le _, hNW, rfl⟩ ⟨hX, had, fun h => by
      rcases h with ⟨i, hi, -⟩ | h
      · cases hi
      · omega⟩ ⟨rfl, rfl⟩
  have hl := lv_entry (As.map (zen ad)) (n := K.2.1) (by rw [zsl_len]; exact hlen)
  rw [← zargs_map] at hl
  rw [hargs, lg_entry_eq]
  rw [hargs] at hz
  exact hz s.heap [] _ (fun k q h => by simp [zWo] at h) va_S.rf hl
theorem z_callX {y : MethodName} {idx n L : Nat} {xs : Nat → Int32} {As rest : List MV} {Qc : Option Int → Prop} (hc : zCx K X) (hs : zSc X L xs) (hct : zCtX y K' L xs As Qc) (hk : zOk y K' n) (hfit : zFits K' K) (hw : Cond.methodLink K.2.2.2.1 idx y ∈ TB) (hsta : Cond.static y ∈ TB) (hn : As.length = n) (hroom : (rest.map zcat).sum ≤ 8) (hst : st = As.reverse ++ rest) (dg : decode K.1 pc = .ok (.invokestatic idx, 3)) (kk : ∀ (r : Option Int), Qc r → zJW X (pc + 3) lv (zans r ++ rest) M) : zJW X pc lv st M := by
  obtain ⟨p, l, e, R, s, m, args, below, meth, c, D, dA, ids, ad, A, cs, nL, Q⟩ := X
  obtain ⟨hx, hb, hml, hret, hlk, hown, hts, hK, hA0, hA, hinj, hnod, hfl, hSt, hR1, hR2, hcs1, hcs2, hNW, hnl⟩ := hc
  obtain ⟨s1, s2, s3⟩ := hs
  intro H locs ls hP hS hv
  have hsz : ad 60 < H.size := Nat.lt_of_lt_of_le s2 hS.1
  have hM := hct l D dA ad H.size hsz
  have hXH : va_X (ad 60) L xs s H := s1.kept (hS.2.1 _ s2 s3)
  have hpre : PreS s H (va_Pc (As.map (zen ad)) (fun U => U.heap.size = H.size ∧ va_X (ad 60) L xs U U.heap ∧ va_K D vwCl (zty dA) U ∧ ∀ w ∈ zNW, va_Nw w U)) (As.map (zen ad)) := by
    refine ⟨fun a U g mk q => ?_, fun U hU hW => ⟨rfl, by rw [hU], by rw [hU]; exact hXH.moved hW.alike, va_K.moved hW.alike hK, fun w hw => zN_warm hW hw (hNW w hw)⟩⟩
    obtain ⟨q0, q1, qX, qK, qN⟩ := q
    exact ⟨q0, q1, va_X.moved (u := U) (U := U.calling g mk a) (Vm.Alike.refl U.vm) qX, va_K.moved (u := U) (U := U.calling g mk a) (Vm.Alike.refl U.vm) qK, fun w hw => zN_same (s := U) (U := U.calling g mk a) rfl hw (qN w hw)⟩
  have hcB := z_callB hk hts hw hfit.1 hR1 hR2
  subst hst
  have hrun := va_runS (e := e) (meth := meth) (below := below) (H := H) (locs := locs) (cells := cs.1) (slots := cs.2) (As := As.map (zen ad)) (rest := rest.map (zen ad)) (g := F0 m pc ls ((As.reverse ++ rest).map (zen ad))) ⟨hx, hb, hml, hown, hts⟩ hM ⟨hcB, hts _ hsta⟩ hpre rfl (by rw [List.length_map]; exact hn) hv.1 (by rw [List.map_append, List.map_reverse])
    (lv_room (by rw [List.map_map]; rw [show ((fun v => v.category) ∘ zen ad) = zcat from funext (zcat_eq ad)]; exact hroom)) dg ⟨hcs1, hcs2⟩
  have hA1 : ∀ q, zA [] ad H.size q → H.size ≤ q := by
    intro q hq
    rcases hq with ⟨i, hi, -⟩ | h
    · cases hi
    · exact h
  refine z_goesA (A0 := A) hrun hS (fun q hq h => absurd (hA1 q h) (Nat.not_le.mpr hq)) (fun q hq => hA0 q (Nat.le_trans hS.1 (hA1 q hq))) (fun r M' H1 locs1 hQ _ hS1 hH => ?_)
  rw [zans_en ad, ← List.map_append]
  refine kk r hQ H1 locs1 ls (hP.kept (fun k w hk => ?_)) hS1 hv
  have hlt := (hP k w hk).lt
  exact hH w.1 hlt (fun h => absurd (hA1 _ h) (Nat.not_le.mpr hlt))
end ZAB
