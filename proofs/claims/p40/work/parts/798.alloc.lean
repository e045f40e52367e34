/-! ===== walks that make arrays: the state's cells grow ===== -/
def zAb (b c s : Nat) (X0 : CX) (ids : List Nat) (ad : Nat → Nat) (cs : Nat × Nat) : Prop := match X0 with
  | (_, _, _, _, _, _, _, _, _, _, _, _, ids0, ad0, _, cs0, _, _) => cs.1 ≤ cs0.1 + c ∧ cs.2 ≤ cs0.2 + s ∧ (∀ i ∈ ids, i < b) ∧ (∀ i ∈ ids0, i ∈ ids ∧ ad i = ad0 i) ∧ (∀ i : Nat, i < 38 → ad i = ad0 i) ∧ ad 60 = ad0 60
/-- X came out of X0: at most c cells of s slots are new; its numbers are below b -/
def zAl (b c s : Nat) (X0 X : CX) : Prop := ∃ (ids : List Nat) (ad : Nat → Nat) (cs : Nat × Nat), X = zXM X0 ids ad cs ∧ zAb b c s X0 ids ad cs
def zCap (X0 : CX) (c s : Nat) : Prop := match X0 with
  | (_, _, _, R, _, _, _, _, _, _, _, _, _, _, _, cs0, _, _) => cs0.1 + c ≤ R.cells ∧ cs0.2 + s ≤ R.slots
def zNI (k : Nat) (X0 : CX) : Prop := match X0 with
  | (_, _, _, _, _, _, _, _, _, _, _, _, ids0, _, _, _, _, _) => k ∉ ids0
def zarn (M : Mem) (k : Nat) : Mem := fun k' z => if k' = k then 0 else M k' z
theorem zCap.le {X0 : CX} {c s c' s' : Nat} (h : zCap X0 c s) (h1 : c' ≤ c) (h2 : s' ≤ s) : zCap X0 c' s' := by
  obtain ⟨p, l, e, R, s_, m, args, below, meth, cd, D, dA, ids, ad, A, cs, nL, Q⟩ := X0
  obtain ⟨a, b⟩ := h
  exact ⟨Nat.le_trans (Nat.add_le_add_left h1 _) a, Nat.le_trans (Nat.add_le_add_left h2 _) b⟩
theorem zAl.le {X0 X : CX} {b c s c' s' : Nat} (h : zAl b c s X0 X) (h1 : c ≤ c') (h2 : s ≤ s') : zAl b c' s' X0 X := by
  obtain ⟨p, l, e, R, s_, m, args, below, meth, cd, D, dA, ids0, ad0, A, cs0, nL, Q⟩ := X0
  obtain ⟨ids, ad, cs, rfl, a1, a2, a3⟩ := h
  exact ⟨ids, ad, cs, rfl, Nat.le_trans a1 (Nat.add_le_add_left h1 _), Nat.le_trans a2 (Nat.add_le_add_left h2 _), a3⟩
theorem ztm_lt {i : Nat} {q : Nat × List (Option Nat)} (h : ztm i = some q) : ∀ k : Nat, some k ∈ q.2 → k < 38 := by
  unfold ztm at h
  split at h
  · obtain rfl := Option.some.inj h
    intro k hk
    simp at hk
    omega
  · split at h
    all_goals first
      | (obtain rfl := Option.some.inj h; intro k hk; simp at hk; omega)
      | cases h
theorem zar_3 {i : Nat} (h : (zar i).1 = 3) : i = 32 := by
  unfold zar at h
  split at h
  · cases h
  · split at h
    · cases h
    · split at h <;> first | rfl | cases h
theorem zat_ad {D : va_G} {dA : Nat → ClassId} {H : Heap} {ad ad' : Nat → Nat} {M : Mem} {x : Nat} (h38 : ∀ j : Nat, j < 38 → ad' j = ad j) (h32 : ∀ j : Int, 0 ≤ j → j < 5 → 3 ≤ M 32 j ∧ M 32 j ≤ 7) (i : Nat) (h : va_at D vwCl (x, zce ad dA M i) H) : va_at D vwCl (x, zce ad' dA M i) H := by
  cases ht : ztm i with
  | some q =>
    have e : zce ad' dA M i = zce ad dA M i := by
      simp only [zce, ht]
      congr 2
      apply List.ext_getElem?
      intro j
      rw [List.getElem?_mapIdx, List.getElem?_mapIdx]
      cases hj : q.2[j]? with
      | none => rfl
      | some o =>
        cases o with
        | none => rfl
        | some k => simp only [Option.map_some, zfv, h38 k (ztm_lt ht k (List.mem_of_getElem? hj))]
    rw [e]
    exact h
  | none =>
    by_cases h3 : (zar i).1 = 3
    · obtain rfl := zar_3 h3
      rw [zce_arrS ht rfl] at h ⊢
      have h : H[x]? = some (arrV (dA 3) 5 (fun j => va_rf (some (ad (M 32 j).toNat)))) := h
      show H[x]? = some (arrV (dA 3) 5 (fun j => va_rf (some (ad' (M 32 j).toNat))))
      rw [h]
      unfold arrV
      congr 2
      refine congrArg Array.ofFn (funext fun j => congrArg va_rf (congrArg some ?_))
      have hj := h32 ((j.1 : Nat) : Int) (by omega) (by have := j.2; omega)
      exact (h38 _ (by omega)).symm
    · have e : zce ad' dA M i = zce ad dA M i := by simp only [zce, ht, if_neg h3]
      rw [e]
      exact h
section ZAA
variable {K K' : Kp} {X X0 : CX} {pc : Nat} {lv lv' : List (Nat × MV)} {st : List MV} {M M' : Mem} {b c s : Nat}
theorem zen_ne {ad : Nat → Nat} {k q : Nat} {v : MV} (h : v ≠ zR k) : zen (fun i => if i = k then q else ad i) v = zen ad v := by
  rcases v with z | i | f | x
  · rfl
  · show Value.ref (if i = k then q else ad i) = Value.ref (ad i)
    rw [if_neg (fun e => h (by rw [e]))]
  · rfl
  · rfl
set_option maxHeartbeats 1000000 in
theorem z_newa {k N : Nat} {n : Int} (hc : zCx K X) (ha : zAl b c s X0 X) (hcode : K'.1 = K.1 ∧ K'.2.1 = K.2.1 ∧ K'.2.2.1 = K.2.2.1 ∧ K'.2.2.2.1 = K.2.2.2.1 ∧ K'.2.2.2.2.1 = K.2.2.2.2.1 ∧ K'.2.2.2.2.2.2 = K.2.2.2.2.2.2) (hfl' : ∀ i, K'.2.2.2.2.2.1 i = true → K.2.2.2.2.2.1 i = true ∨ i = k) (hk0 : zNI k X0) (hkb : k < b) (hk45 : 38 ≤ k ∧ k < 45) (hz : zar k = (0, N)) (hn : n = (N : Int)) (hN : N < 100) (hcap : zCap X0 (c + 1) (s + N)) (hw : Cond.arrayClass .int ∈ TB) (h32 : ∀ j : Int, 0 ≤ j → j < 5 → 3 ≤ M 32 j ∧ M 32 j ≤ 7) (hlv : ∀ q ∈ lv, q.2 ≠ zR k) (hst : ∀ q ∈ st, q ≠ zR k) (dg : decode K.1 pc = .ok (.newarray .int, 2)) (kk : ∀ X' : CX, zCx K' X' → zAl b (c + 1) (s + N) X0 X' → zJW X' (pc + 2) lv (zR k :: st) (zarn M k)) : zJW X pc lv (zI n :: st) M := by
  obtain ⟨p, l, e, R, s_, m, args, below, meth, cd, D, dA, ids0, ad0, A, cs0, nL, Q⟩ := X0
  obtain ⟨ids, ad, cs, rfl, a1, a2, a3, a4, a5, a6⟩ := ha
  obtain ⟨hx, hb, hml, hret, hlk, hown, hts, hK, hA0, hA, hinj, hnod, hfl, hSt, hR1, hR2, hcs1, hcs2, hNW, hnl⟩ := hc
  subst hn
  have hnn : ¬ iI (N : Int) < 0 := by
    rw [iI_nI]
    intro h
    have h2 := Int32.lt_iff_toInt_lt.mp h
    rw [nI_toInt (by omega)] at h2
    have : (0 : Int32).toInt = 0 := rfl
    omega
  have hNN : (iI (N : Int)).toNatClampNeg = N := by rw [iI_nI, nI_clamp (by omega)]
  have hztm : ztm k = none := by
    obtain rfl | rfl | rfl | rfl | rfl | rfl | rfl : k = 38 ∨ k = 39 ∨ k = 40 ∨ k = 41 ∨ k = 42 ∨ k = 43 ∨ k = 44 := by omega
    all_goals rfl
  intro H locs ls hP hS hv
  refine va_newa (a0 := (N, .inl (fun _ => iI 0))) hx hb (by show (Cond.arrayClass .int).before args s_ = true; exact hts _ hw) rfl hK hP (zWo_D hA hinj hnod dA M) hS hA0 (fun cA => rfl) hnn hNN (by show N * 4 ≤ 536870912; omega) (Nat.le_trans (Nat.add_le_add_right a1 1) (by have := hcap.1; omega)) (Nat.le_trans (Nat.add_le_add_right a2 N) (by have := hcap.2; omega)) dg (fun q cA H1 hK1 hP1 hD1 hS1 => ?_)
  have hcA : cA = dA 0 := by
    have h1 := (hK1.2 4 (cA, .int) (by simp [zty, newarray.typeOf])).2
    exact Option.some.inj (h1.symm.trans (hK.2 0 (dA 0, .int) rfl).2)
  subst hcA
  have hq0 : ∀ i ∈ ids, ad i ≠ q := by
    intro i hi he
    obtain ⟨j, -, hj⟩ := zWo_at hi ad dA M
    have hlt : j < (zWo ids ad dA M).length := (List.getElem?_eq_some_iff.mp hj).1
    have h1 : (zWo ids ad dA M ++ [(q, .inl (dA 0, N, .inl (fun _ => iI 0)))])[j]? = some (ad i, zce ad dA M i) := by rw [List.getElem?_append_left hlt]; exact hj
    have h2 : (zWo ids ad dA M ++ [(q, (.inl (dA 0, N, .inl (fun _ => iI 0)) : va_E))])[(zWo ids ad dA M).length]? = some (q, .inl (dA 0, N, .inl (fun _ => iI 0))) := by rw [List.getElem?_append_right (Nat.le_refl _), Nat.sub_self]; rfl
    have := hD1.1 _ _ _ _ h1 h2 he
    omega
  have hAq : A q := by
    have h2 : (zWo ids ad dA M ++ [(q, (.inl (dA 0, N, .inl (fun _ => iI 0)) : va_E))])[(zWo ids ad dA M).length]? = some (q, .inl (dA 0, N, .inl (fun _ => iI 0))) := by rw [List.getElem?_append_right (Nat.le_refl _), Nat.sub_self]; rfl
    exact hD1.2 _ _ h2
  have hatq : va_at D vwCl (q, .inl (dA 0, N, .inl (fun _ => iI 0))) H1 := by
    have h2 : (zWo ids ad dA M ++ [(q, (.inl (dA 0, N, .inl (fun _ => iI 0)) : va_E))])[(zWo ids ad dA M).length]? = some (q, .inl (dA 0, N, .inl (fun _ => iI 0))) := by rw [List.getElem?_append_right (Nat.le_refl _), Nat.sub_self]; rfl
    exact hP1 _ _ h2
  have hati : ∀ i ∈ ids, va_at D vwCl (ad i, zce ad dA M i) H1 := by
    intro i hi
    obtain ⟨j, -, hj⟩ := zWo_at hi ad dA M
    have hlt : j < (zWo ids ad dA M).length := (List.getElem?_eq_some_iff.mp hj).1
    exact hP1 j _ (by rw [List.getElem?_append_left hlt]; exact hj)
  have hadn : ∀ i : Nat, i ≠ k → (fun i => if i = k then q else ad i) i = ad i := fun i h => if_neg h
  have hmem : ∀ i, i ∈ k :: ids.filter (fun i => !(i == k)) ↔ i = k ∨ i ∈ ids := by
    intro i
    simp only [List.mem_cons, List.mem_filter, Bool.not_eq_true', beq_eq_false_iff_ne]
    constructor
    · rintro (h | h)
      · exact Or.inl h
      · exact Or.inr h.1
    · rintro (h | h)
      · exact Or.inl h
      · by_cases he : i = k
        · exact Or.inl he
        · exact Or.inr ⟨h, he⟩
  have hA9 : ∀ i ∈ k :: ids.filter (fun i => !(i == k)), A ((fun i => if i = k then q else ad i) i) := by
    intro i hi
    by_cases he : i = k
    · simp only [he, if_true]; exact hAq
    · rcases (hmem i).mp hi with h | h
      · exact absurd h he
      · rw [hadn i he]; exact hA i h
  have hst9 : Value.ref q :: st.map (zen ad) = (zR k :: st).map (zen (fun i => if i = k then q else ad i)) := by
    rw [List.map_cons]
    congr 1
    · show Value.ref q = Value.ref (if k = k then q else ad k)
      rw [if_pos rfl]
    · exact List.map_congr_left (fun v hv => (zen_ne (hst v hv)).symm)
  rw [hst9]
  refine kk (zXM (p, l, e, R, s_, m, args, below, meth, cd, D, dA, ids0, ad0, A, cs0, nL, Q) (k :: ids.filter (fun i => !(i == k))) (fun i => if i = k then q else ad i) (cs.1 + 1, cs.2 + N)) ?_ ?_ H1 locs ls (fun j w hj => ?_) hS1 ?_
  · refine ⟨hx, hb.trans hcode.1.symm, hml, hret.trans hcode.2.2.1.symm, hlk, by rw [hcode.2.2.2.1]; exact hown, hts, hK, hA0, hA9, fun i hi j hj hij => ?_, ?_, fun i hi => ?_, fun h => hSt (by rw [← hcode.2.2.2.2.2]; exact h), by rw [hcode.2.2.2.2.1]; exact hR1, by rw [hcode.2.2.2.2.1]; exact hR2, ?_, ?_, hNW, by rw [hcode.2.1]; exact hnl⟩
    · by_cases h1 : i = k
      · by_cases h2 : j = k
        · rw [h1, h2]
        · rcases (hmem j).mp hj with h | h
          · exact absurd h h2
          · simp only [h1, if_true, if_neg h2] at hij
            exact absurd hij.symm (hq0 j h)
      · by_cases h2 : j = k
        · rcases (hmem i).mp hi with h | h
          · exact absurd h h1
          · simp only [h2, if_true, if_neg h1] at hij
            exact absurd hij (hq0 i h)
        · simp only [if_neg h1, if_neg h2] at hij
          rcases (hmem i).mp hi with h | h
          · exact absurd h h1
          · rcases (hmem j).mp hj with h' | h'
            · exact absurd h' h2
            · exact hinj i h j h' hij
    · refine List.nodup_cons.mpr ⟨fun h => ?_, hnod.filter _⟩
      have := (List.mem_filter.mp h).2
      simp at this
    · rcases hfl' i hi with h | h
      · exact (hmem i).mpr (Or.inr (hfl i h))
      · exact (hmem i).mpr (Or.inl h)
    · have := hcap.1
      show cs.1 + 1 ≤ R.cells
      omega
    · have := hcap.2
      show cs.2 + N ≤ R.slots
      omega
  · refine ⟨_, _, _, rfl, ?_, ?_, fun i hi => ?_, fun i hi => ?_, fun i hi => ?_, ?_⟩
    · show cs.1 + 1 ≤ cs0.1 + (c + 1)
      omega
    · show cs.2 + N ≤ cs0.2 + (s + N)
      omega
    · rcases (hmem i).mp hi with h | h
      · rw [h]; exact hkb
      · exact a3 i h
    · have hne : i ≠ k := fun h => hk0 (h ▸ hi)
      exact ⟨(hmem i).mpr (Or.inr (a4 i hi).1), (hadn i hne).trans (a4 i hi).2⟩
    · exact (hadn i (by omega)).trans (a5 i hi)
    · exact (hadn 60 (by omega)).trans a6
  · have hj' := hj
    rw [zWo_get] at hj'
    obtain ⟨i, hi, rfl⟩ := Option.map_eq_some_iff.mp hj'
    have him := (hmem i).mp (List.mem_of_getElem? hi)
    by_cases he : i = k
    · subst he
      have e1 : zce (fun j => if j = i then q else ad j) dA (zarn M i) i = .inl (dA 0, N, .inl (fun _ => iI 0)) := by
        rw [zce_arr hztm hz (by decide)]
        simp only [zarn, if_true]
      simp only [if_true]
      rw [e1]
      exact hatq
    · rcases him with h | h
      · exact absurd h he
      · have e1 : zce (fun j => if j = k then q else ad j) dA (zarn M k) i = zce (fun j => if j = k then q else ad j) dA M i := zce_congr (by funext z; simp only [zarn, if_neg he])
        simp only [if_neg he]
        rw [e1]
        exact zat_ad (fun j hj => hadn j (by omega)) h32 i (hati i h)
  · refine ⟨hv.1, hv.2.1, fun w hw => ?_⟩
    obtain ⟨w', hw', rfl⟩ := List.mem_map.mp hw
    have := hv.2.2 (w'.1, zen ad w'.2) (List.mem_map.mpr ⟨w', hw', rfl⟩)
    show ls[w'.1]? = some (.val (zen (fun i => if i = k then q else ad i) w'.2))
    rw [zen_ne (hlv w' hw')]
    exact this
end ZAA
