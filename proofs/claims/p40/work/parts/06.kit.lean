/-! ===== a small machine over whole numbers: values are Ints (kept modulo 2^32), cells have fixed numbers ("ids"), addresses are hidden ===== -/
abbrev MV : Type := Int ⊕ (Nat ⊕ (UInt32 ⊕ Int64))
abbrev Mem : Type := Nat → Int → Int
abbrev zI (z : Int) : MV := Sum.inl z
abbrev zR (k : Nat) : MV := Sum.inr (Sum.inl k)
abbrev zF (f : UInt32) : MV := Sum.inr (Sum.inr (Sum.inl f))
abbrev zL (x : Int64) : MV := Sum.inr (Sum.inr (Sum.inr x))
def iI (z : Int) : Int32 := Int32.ofInt z
def zen (ad : Nat → Nat) : MV → Value := fun v => match v with
  | .inl z => .int (iI z)
  | .inr (.inl k) => .ref (ad k)
  | .inr (.inr (.inl f)) => .float f
  | .inr (.inr (.inr x)) => .long x
def zcat : MV → Nat := fun v => match v with
  | .inr (.inr (.inr _)) => 2
  | _ => 1
theorem zcat_eq (ad : Nat → Nat) (v : MV) : (zen ad v).category = zcat v := by
  rcases v with z | k | f | x <;> rfl
def zup (M : Mem) (k : Nat) (z v : Int) : Mem := fun k' z' => if k' = k ∧ z' = z then v else M k' z'
/-- the objects: the class's number in vwCl, its fields (none: a number, some k: always a reference to cell k) -/
def ztm (k : Nat) : Option (Nat × List (Option Nat)) :=
  if k < 9 then some (3, [none, none, none, some (k + 9), some (k + 18)]) else match k with
  | 27 => some (5, [some 28, some 0, some 1, some 2, none, some 31, some 33, some 36])
  | 28 => some (1, [some 29, some 30])
  | 31 => some (0, [some 32, none])
  | 33 => some (2, [some 34, some 35, none, none])
  | 36 => some (4, [some 37, none, some 8, none, none, none, none])
  | _ => none
/-- the arrays: what kind (0 int, 1 boolean, 2 char, 3 State), how long -/
def zar (k : Nat) : Nat × Nat :=
  if k < 18 then (1, 144) else if k < 27 then (0, 144) else match k with
  | 29 => (0, 47)
  | 30 => (0, 256)
  | 32 => (3, 5)
  | 37 => (0, 80)
  | 38 => (0, 14)
  | 39 => (0, 36)
  | 40 => (0, 3)
  | 41 => (0, 14)
  | 42 => (0, 36)
  | 43 => (0, 12)
  | 44 => (0, 12)
  | _ => (0, 144)
def zfv (ad : Nat → Nat) (M : Mem) (k : Nat) : Nat → Option Nat → Value := fun j o => match o with
  | none => .int (iI (M k j))
  | some k' => .ref (ad k')
def zce (ad : Nat → Nat) (dA : Nat → ClassId) (M : Mem) (k : Nat) : va_E := match ztm k with
  | some q => .inr (q.1, q.2.mapIdx (zfv ad M k))
  | none => if (zar k).1 = 3 then .inl (dA 3, (zar k).2, .inr (.inr (.inr (.inr (fun j => some (ad (M k j).toNat))))))
    else .inl (dA (zar k).1, (zar k).2, .inl (fun j => iI (M k j)))
def zWo (ids : List Nat) (ad : Nat → Nat) (dA : Nat → ClassId) (M : Mem) : va_W := ids.map fun k => (ad k, zce ad dA M k)
def zty (dA : Nat → ClassId) : List (ClassId × FieldType) := [(dA 0, .int), (dA 1, .boolean), (dA 0, .int), (dA 3, .object "CoastTiles$State")]
def zrow (j : Int) : Int := if j = 0 then -1 else if j = 1 then -1 else if j = 2 then 0 else if j = 3 then 1 else if j = 4 then 1 else if j = 5 then 1 else if j = 6 then 0 else -1
def zcol (j : Int) : Int := if j = 0 then 0 else if j = 1 then 1 else if j = 2 then 1 else if j = 3 then 1 else if j = 4 then 0 else if j = 5 then -1 else if j = 6 then -1 else -1
def zSta (A : Nat → Prop) (U : State) (H : Heap) : Prop := ∃ t1 t2 : Nat, va_Z "CoastTiles" "ROW_STEPS" "[I" (.ref t1) A U H ∧ va_T .int t1 8 (fun j => .int (iI (zrow j))) A U H ∧ va_Z "CoastTiles" "COLUMN_STEPS" "[I" (.ref t2) A U H ∧ va_T .int t2 8 (fun j => .int (iI (zcol j))) A U H
/-- the words that link private members across the nest -/
def zisN : Cond → Bool
  | .fieldLinkNest .. => true
  | .methodLinkNest .. => true
  | _ => false
def zNW : List Cond := lw_tbl.filter zisN
theorem zN_warm {s U : State} (hW : s.WarmedH U.vm) {w : Cond} (hw : w ∈ zNW) (h : va_Nw w s) : va_Nw w U := by
  have h1 : zisN w = true := (List.mem_filter.mp hw).2
  cases w <;> first | exact va_Nw.warmF hW h | exact va_Nw.warmM hW h | exact absurd h1 (by simp [zisN])
theorem zN_same {s U : State} (hvm : s.vm = U.vm) {w : Cond} (hw : w ∈ zNW) (h : va_Nw w s) : va_Nw w U := by
  have h1 : zisN w = true := (List.mem_filter.mp hw).2
  cases w <;> first | exact va_Nw.same rfl hvm h | exact absurd h1 (by simp [zisN])
theorem zN_use {s : State} {args : Array Value} {w : Cond} (hw : w ∈ zNW) (h : va_Nw w s) : w.before args s = true := by
  have h1 : zisN w = true := (List.mem_filter.mp hw).2
  cases w <;> first | exact va_Nw.use rfl h | exact absurd h1 (by simp [zisN])
/-- what a method is: its code, its locals, its answer's type, its class, its depth, the cells that it needs, whether it needs the static tables -/
abbrev Kp : Type := ByteArray × Nat × Option FieldType × String × Nat × (Nat → Bool) × Bool
abbrev CX : Type := Program × Launch × Env × Room × State × MethodId × Array Value × List Frame × Method × Code × va_G × (Nat → ClassId) × List Nat × (Nat → Nat) × (Nat → Prop) × (Nat × Nat) × Nat × (State → Prop)
def zJW (X : CX) (pc : Nat) (lv : List (Nat × MV)) (st : List MV) (M : Mem) : Prop := match X with
  | (p, l, e, R, s, m, args, below, meth, c, D, dA, ids, ad, A, cs, nL, Q) => ∀ (H : Heap) (locs : List Loc) (ls : Array Slot), va_P D vwCl (zWo ids ad dA M) H → va_S A s.heap H locs → lv_has ls nL (lv.map fun q => (q.1, zen ad q.2)) →
    W p l e R s m args below meth c H locs cs.1 cs.2 Q (F0 m pc ls (st.map (zen ad)))
def zCx (K : Kp) (X : CX) : Prop := match X with
  | (p, l, e, R, s, m, args, below, meth, c, D, dA, ids, ad, A, cs, nL, Q) => p.tables.exec = Jvm.exec ∧ c.code = K.1 ∧ c.maxLocals = nL ∧ meth.sig.returnType = K.2.2.1 ∧ meth.locks = false ∧ s.vm.findClass K.2.2.2.1 = some m.cls ∧
    (∀ w ∈ TB, w.before args s = true) ∧ va_K D vwCl (zty dA) s ∧ (∀ q, s.heap.size ≤ q → A q) ∧ (∀ i ∈ ids, A (ad i)) ∧ (∀ i ∈ ids, ∀ j ∈ ids, ad i = ad j → i = j) ∧ ids.Nodup ∧
    (∀ k, K.2.2.2.2.2.1 k = true → k ∈ ids) ∧ (K.2.2.2.2.2.2 = true → zSta A s s.heap) ∧ K.2.2.2.2.1 ≤ R.frames ∧ 39 * K.2.2.2.2.1 ≤ R.locals ∧ cs.1 ≤ R.cells ∧ cs.2 ≤ R.slots ∧ (∀ w ∈ zNW, va_Nw w s) ∧ nL = K.2.1
def zA (ids : List Nat) (ad : Nat → Nat) (sz : Nat) : Nat → Prop := fun q => (∃ i ∈ ids, q = ad i) ∨ sz ≤ q
def zQ (D : va_G) (dA : Nat → ClassId) (ids : List Nat) (ad : Nat → Nat) (Q : Option Int → Mem → Prop) (A : Nat → Prop) : Array Value → State → Outcome → State → Prop := fun _ st oc t =>
  (∃ (r : Option Int) (M : Mem), oc = .returned (r.map fun z => Value.int (iI z)) ∧ Q r M ∧ va_P D vwCl (zWo ids ad dA M) t.heap) ∧ va_F A st t
/-- the walk's end is a method's end -/
def zEnd (Q : Option Int → Mem → Prop) (X : CX) : Prop := match X with
  | (p, l, e, R, s, m, args, below, meth, c, D, dA, ids, ad, A, cs, nL, Z) => cs = (0, 0) ∧ Z = MQ below (zQ D dA ids ad Q A) args s 0 0 A
abbrev zRm (d : Nat) : Room := { frames := d, cells := 0, slots := 0, locals := 39 * d }
/-- a method's contract: from the cells M, with these arguments, it returns, and Q holds of the answer and the cells -/
def zCt (y : MethodName) (K : Kp) (As : List MV) (M : Mem) (Q : Option Int → Mem → Prop) : Prop := ∀ (l : Launch) (D : va_G) (dA : Nat → ClassId) (ids : List Nat) (ad : Nat → Nat) (sz : Nat),
  (∀ k, K.2.2.2.2.2.1 k = true → k ∈ ids) → ids.Nodup → (∀ i ∈ ids, ∀ j ∈ ids, ad i = ad j → i = j) →
  Met l y (.code y K.1 K.2.1 K.2.2.1 :: TB) (zRm K.2.2.2.2.1) (va_Pc (As.map (zen ad)) (fun U => U.heap.size = sz ∧ va_P D vwCl (zWo ids ad dA M) U.heap ∧ va_K D vwCl (zty dA) U ∧ (K.2.2.2.2.2.2 = true → zSta (zA ids ad sz) U U.heap) ∧ ∀ w ∈ zNW, va_Nw w U))
    (zQ D dA ids ad Q (zA ids ad sz)) 0 0 (zA ids ad sz)
def zargs : Nat → List MV → List (Nat × MV)
  | _, [] => []
  | n, v :: t => (n, v) :: zargs (if zcat v = 2 then n + 2 else n + 1) t
theorem zargs_map (ad : Nat → Nat) : ∀ (As : List MV) (n : Nat), (zargs n As).map (fun q => (q.1, zen ad q.2)) = lv_args n (As.map (zen ad))
  | [], n => rfl
  | v :: t, n => by
    have h := zargs_map ad t (if zcat v = 2 then n + 2 else n + 1)
    simp only [zargs, List.map_cons, h, lv_args, zcat_eq]
theorem zTB_in {args a' : Array Value} {s U : State} (hW : s.WarmedH U.vm) {w : Cond} (hw : w ∈ TB) (h : w.before args s = true) : w.before a' U = true :=
  word_at hW (good_of_word (List.mem_filter.mp hw).2) h
theorem zTB_good (w : Cond) (hw : w ∈ TB) : (w.onTables && w.keeps) = true ∨ ∃ ty, w = .arrayClass ty := good_of_word (List.mem_filter.mp hw).2
theorem zSta.moved {A : Nat → Prop} {u U : State} {H : Heap} (hvm : u.vm.Alike U.vm) (h : zSta A u H) : zSta A U H := by
  obtain ⟨t1, t2, h1, h2, h3, h4⟩ := h
  exact ⟨t1, t2, h1.moved hvm, h2.moved hvm, h3.moved hvm, h4.moved hvm⟩
theorem zSta.kept {A : Nat → Prop} {U : State} {H H1 : Heap} (h : zSta A U H) (hq : ∀ a : Nat, a < H.size → ¬ A a → H1[a]? = H[a]?) : zSta A U H1 := by
  obtain ⟨t1, t2, h1, h2, h3, h4⟩ := h
  exact ⟨t1, t2, h1.kept hq, h2.kept hq, h3.kept hq, h4.kept hq⟩
theorem zSta.narrow {A B : Nat → Prop} {U : State} {H : Heap} (h : zSta A U H) (hAB : ∀ q, B q → A q) : zSta B U H := by
  obtain ⟨t1, t2, h1, h2, h3, h4⟩ := h
  exact ⟨t1, t2, h1.narrow hAB, h2.narrow hAB, h3.narrow hAB, h4.narrow hAB⟩
theorem zWo_len (ids : List Nat) (ad : Nat → Nat) (dA : Nat → ClassId) (M : Mem) : (zWo ids ad dA M).length = ids.length := by simp [zWo]
theorem zWo_get (ids : List Nat) (ad : Nat → Nat) (dA : Nat → ClassId) (M : Mem) (q : Nat) : (zWo ids ad dA M)[q]? = (ids[q]?).map fun k => (ad k, zce ad dA M k) := by simp [zWo]
theorem zWo_at {ids : List Nat} {k : Nat} (hk : k ∈ ids) (ad : Nat → Nat) (dA : Nat → ClassId) (M : Mem) : ∃ q : Nat, ids[q]? = some k ∧ (zWo ids ad dA M)[q]? = some (ad k, zce ad dA M k) := by
  obtain ⟨q, hq⟩ := List.getElem?_of_mem hk
  exact ⟨q, hq, by rw [zWo_get, hq]; rfl⟩
theorem zWo_set {ids : List Nat} (hn : ids.Nodup) {q k : Nat} (hq : ids[q]? = some k) {ad : Nat → Nat} {dA : Nat → ClassId} {M M' : Mem} (hM : ∀ i, i ≠ k → zce ad dA M' i = zce ad dA M i) : (zWo ids ad dA M).set q (ad k, zce ad dA M' k) = zWo ids ad dA M' := by
  apply List.ext_getElem?
  intro j
  rw [zWo_get, List.getElem?_set]
  have hlt : q < ids.length := (List.getElem?_eq_some_iff.mp hq).1
  by_cases hj : q = j
  · subst hj
    rw [if_pos rfl, if_pos (by rw [zWo_len]; exact hlt), hq]
    rfl
  · rw [if_neg hj, zWo_get]
    cases hi : ids[j]? with
    | none => rfl
    | some i =>
      have hne : i ≠ k := by
        intro e
        subst e
        exact hj ((List.getElem?_inj hlt hn).mp (hq.trans hi.symm))
      simp [hM i hne]
theorem zWo_D {ids : List Nat} {ad : Nat → Nat} {A : Nat → Prop} (hA : ∀ i ∈ ids, A (ad i)) (hinj : ∀ i ∈ ids, ∀ j ∈ ids, ad i = ad j → i = j) (hn : ids.Nodup) (dA : Nat → ClassId) (M : Mem) : va_D A (zWo ids ad dA M) := by
  refine ⟨fun i j p q hi hj hpq => ?_, fun k q hk => ?_⟩
  · rw [zWo_get] at hi hj
    obtain ⟨a, ha, rfl⟩ := Option.map_eq_some_iff.mp hi
    obtain ⟨b, hb, rfl⟩ := Option.map_eq_some_iff.mp hj
    have hab := hinj a (List.mem_of_getElem? ha) b (List.mem_of_getElem? hb) hpq
    subst hab
    exact (List.getElem?_inj (List.getElem?_eq_some_iff.mp ha).1 hn).mp (ha.trans hb.symm)
  · rw [zWo_get] at hk
    obtain ⟨a, ha, rfl⟩ := Option.map_eq_some_iff.mp hk
    exact hA a (List.mem_of_getElem? ha)
theorem iI_val (x : Int32) : iI x.toInt = x := by simp [iI]
theorem iI_toInt {z : Int} (h : -2147483648 ≤ z ∧ z < 2147483648) : (iI z).toInt = z := by
  unfold iI
  rw [Int32.toInt_ofInt]
  show z.bmod 4294967296 = z
  exact Int.bmod_eq_of_le (by omega) (by omega)
theorem iI_add (a b : Int) : iI a + iI b = iI (a + b) := by simp [iI, Int32.ofInt_add]
theorem iI_sub (a b : Int) : iI a - iI b = iI (a - b) := by simp [iI, Int32.ofInt_sub]
theorem iI_mul (a b : Int) : iI a * iI b = iI (a * b) := by simp [iI, Int32.ofInt_mul]
theorem iI_neg (a : Int) : -iI a = iI (-a) := by simp [iI, Int32.ofInt_neg]
theorem iI_nI (n : Nat) : iI (n : Int) = nI n := by
  unfold iI nI
  rw [Int32.ofInt_eq_ofNat]
theorem iI_lt {a b : Int} (h : -2147483648 ≤ a ∧ a < 2147483648 ∧ -2147483648 ≤ b ∧ b < 2147483648) : iI a < iI b ↔ a < b := by
  rw [Int32.lt_iff_toInt_lt, iI_toInt ⟨h.1, h.2.1⟩, iI_toInt h.2.2]
theorem iI_le {a b : Int} (h : -2147483648 ≤ a ∧ a < 2147483648 ∧ -2147483648 ≤ b ∧ b < 2147483648) : iI a ≤ iI b ↔ a ≤ b := by
  rw [Int32.le_iff_toInt_le, iI_toInt ⟨h.1, h.2.1⟩, iI_toInt h.2.2]
theorem iI_eq {a b : Int} (h : -2147483648 ≤ a ∧ a < 2147483648 ∧ -2147483648 ≤ b ∧ b < 2147483648) : iI a = iI b ↔ a = b := by
  rw [← Int32.toInt_inj, iI_toInt ⟨h.1, h.2.1⟩, iI_toInt h.2.2]
theorem iI_in {z : Int} {n : Nat} (h0 : 0 ≤ z) (h1 : z < n) (hn : n < 2147483648) : vp_in (iI z) n ∧ (((iI z).toNatClampNeg : Nat) : Int) = z := by
  obtain ⟨k, rfl⟩ := Int.eq_ofNat_of_zero_le h0
  have hk : k < n := by omega
  rw [iI_nI]
  exact ⟨vp_in_nI hk (by omega), by rw [nI_clamp (by omega)]⟩
def zan (a b : Int) : Int := (iI a &&& iI b).toInt
def zor (a b : Int) : Int := (iI a ||| iI b).toInt
def zxr (a b : Int) : Int := (iI a ^^^ iI b).toInt
def zsl (a b : Int) : Int := (iI a <<< (iI b &&& 31)).toInt
def zsr (a b : Int) : Int := (iI a >>> (iI b &&& 31)).toInt
def zus (a b : Int) : Int := ((iI a).toUInt32 >>> ((iI b).toUInt32 &&& Int32.toUInt32 31)).toInt32.toInt
def zch (a : Int) : Int := ((iI a).toUInt32 % 65536).toInt32.toInt
theorem zdiv {a b : Int} (ha : 0 ≤ a ∧ a < 2147483648) (hb : 0 < b ∧ b < 2147483648) : iI a / iI b = iI (a / b) ∧ iI a - iI a / iI b * iI b = iI (a % b) ∧ ¬ iI b = 0 := by
  obtain ⟨x, rfl⟩ := Int.eq_ofNat_of_zero_le ha.1
  obtain ⟨y, rfl⟩ := Int.eq_ofNat_of_zero_le (by omega : 0 ≤ b)
  have e1 : ((x : Int) / (y : Int)) = ((x / y : Nat) : Int) := rfl
  have e2 : ((x : Int) % (y : Int)) = ((x % y : Nat) : Int) := rfl
  rw [e1, e2, iI_nI, iI_nI, iI_nI, iI_nI]
  exact ⟨pk_div (by omega) (by omega) (by omega), pk_rem (by omega) (by omega) (by omega), nI_ne0 (by omega) (by omega)⟩
