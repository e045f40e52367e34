/-- the classes and the arrays' classes, out of the tables -/
theorem zdA_ex {s : State} {args : Array Value} (hts : ∀ w ∈ lw_tbl, w.before args s = true) : ∃ (D : va_G) (dA : Nat → ClassId), va_K D vwCl (zty dA) s := by
  have hTB : ∀ w ∈ TB, w.before args s = true := fun w hw => hts w (List.mem_filter.mp hw).1
  obtain ⟨c0, i0, h0⟩ := u_known (C := RX0) (T := TX0) (N := 2) (n := 2) hTB inX0 (hts _ (List.mem_of_getElem? (i := 121) (by decide +kernel)))
  obtain ⟨c1, i1, h1⟩ := u_known (C := RX1) (T := TX1) (N := 2) (n := 2) hTB inX1 (hts _ (List.mem_of_getElem? (i := 65) (by decide +kernel)))
  obtain ⟨c2, i2, h2⟩ := u_known (C := RX2) (T := TX2) (N := 4) (n := 4) hTB inX2 (hts _ (List.mem_of_getElem? (i := 138) (by decide +kernel)))
  obtain ⟨c3, i3, h3⟩ := u_known (C := RX3) (T := TX3) (N := 5) (n := 5) hTB inX3 (hts _ (List.mem_of_getElem? (i := 88) (by decide +kernel)))
  obtain ⟨c4, i4, h4⟩ := u_known (C := RX4) (T := TX4) (N := 7) (n := 7) hTB inX4 (hts _ (List.mem_of_getElem? (i := 159) (by decide +kernel)))
  obtain ⟨c5, i5, h5⟩ := u_known (C := RX5) (T := TX5) (N := 8) (n := 8) hTB inX5 (hts _ (List.mem_of_getElem? (i := 57) (by decide +kernel)))
  obtain ⟨c6, i6, h6⟩ := u_known (C := RX6) (T := TX6) (N := 22) (n := 22) hTB inX6 (hts _ (List.mem_of_getElem? (i := 588) (by decide +kernel)))
  have arr : ∀ t : FieldType, (Cond.arrayClass t).before args s = true → ∃ cA, s.vm.findClass ("[" ++ t.toString) = some cA ∧ ArrOfT s cA t := fun t h => by
    obtain ⟨cA, k, comp, e1, e2, e3⟩ := Cond.arrayClass_spec h
    exact ⟨cA, e1, fun n z => ⟨fun k h => (by cases h), k, e2, comp, e3⟩⟩
  obtain ⟨d0, f0, g0⟩ := arr .int (hts (Cond.arrayClass .int) (List.mem_of_getElem? (i := 86) (by decide +kernel)))
  obtain ⟨d1, f1, g1⟩ := arr .boolean (hts (Cond.arrayClass .boolean) (List.mem_of_getElem? (i := 119) (by decide +kernel)))
  obtain ⟨d2, f2, g2⟩ := arr .char (hts (Cond.arrayClass .char) (List.mem_of_getElem? (i := 670) (by decide +kernel)))
  obtain ⟨comp, d3, k3, e1, e2, e3, e4, e5⟩ := Cond.arrayOver_spec (hts (Cond.arrayOver (.object "CoastTiles$State")) (List.mem_of_getElem? (i := 127) (by decide +kernel)))
  refine ⟨(fun k => match k with | 0 => c0 | 1 => c1 | 2 => c2 | 3 => c3 | 4 => c4 | 5 => c5 | _ => c6, fun k => match k with | 0 => i0 | 1 => i1 | 2 => i2 | 3 => i3 | 4 => i4 | 5 => i5 | _ => i6), fun k => match k with | 0 => d0 | 1 => d1 | 2 => d2 | _ => d3, fun k q hq => ?_, fun k q hq => ?_⟩
  · match k, hq with
    | 0, hq => cases hq; exact h0
    | 1, hq => cases hq; exact h1
    | 2, hq => cases hq; exact h2
    | 3, hq => cases hq; exact h3
    | 4, hq => cases hq; exact h4
    | 5, hq => cases hq; exact h5
    | 6, hq => cases hq; exact h6
    | k + 7, hq => cases hq
  · match k, hq with
    | 0, hq => cases hq; exact ⟨g0, f0⟩
    | 1, hq => cases hq; exact ⟨g1, f1⟩
    | 2, hq => cases hq; exact ⟨g2, f2⟩
    | 3, hq => cases hq; exact ⟨fun n z => ⟨fun k h => (by cases h), k3, e3, comp, e4⟩, k3, comp, e3, e4, e1, e5⟩
    | k + 4, hq => cases hq
theorem zSta_ex {s : State} {b : Nat} {A : Nat → Prop} (hts : ∀ w ∈ lw_tbl, w.before #[Value.ref b] s = true) (hg : (Jvm.Cond.and given_1 narrow_1).before #[Value.ref b] s = true) (hA : ∀ a : Nat, a < s.heap.size → ¬ A a) : zSta A s s.heap := by
  have hs := flat_of_before _ hg
  obtain ⟨t1, e1, T1⟩ := va_Tof (tm := .static "CoastTiles" "ROW_STEPS" "[I") (ty := .int) (N := 8) (f := fun j => .int (iI (zrow (j : Nat)))) (by decide) (hs (Cond.arrayOf (.static "CoastTiles" "ROW_STEPS" "[I") .int) (by decide +kernel)) (va_eqt (hs (Cond.eq (.length (.static "CoastTiles" "ROW_STEPS" "[I")) (.int 8)) (by decide +kernel))) (fun j hj => match j, hj with | 0, _ => (va_eqt (hs (Cond.eq (.elem (.static "CoastTiles" "ROW_STEPS" "[I") (.int 0)) (.int (-1))) (by decide +kernel))).trans (congrArg (fun z => some (Value.int z)) (by decide)) | 1, _ => (va_eqt (hs (Cond.eq (.elem (.static "CoastTiles" "ROW_STEPS" "[I") (.int 1)) (.int (-1))) (by decide +kernel))).trans (congrArg (fun z => some (Value.int z)) (by decide)) | 2, _ => (va_eqt (hs (Cond.eq (.elem (.static "CoastTiles" "ROW_STEPS" "[I") (.int 2)) (.int 0)) (by decide +kernel))).trans (congrArg (fun z => some (Value.int z)) (by decide)) | 3, _ => (va_eqt (hs (Cond.eq (.elem (.static "CoastTiles" "ROW_STEPS" "[I") (.int 3)) (.int 1)) (by decide +kernel))).trans (congrArg (fun z => some (Value.int z)) (by decide)) | 4, _ => (va_eqt (hs (Cond.eq (.elem (.static "CoastTiles" "ROW_STEPS" "[I") (.int 4)) (.int 1)) (by decide +kernel))).trans (congrArg (fun z => some (Value.int z)) (by decide)) | 5, _ => (va_eqt (hs (Cond.eq (.elem (.static "CoastTiles" "ROW_STEPS" "[I") (.int 5)) (.int 1)) (by decide +kernel))).trans (congrArg (fun z => some (Value.int z)) (by decide)) | 6, _ => (va_eqt (hs (Cond.eq (.elem (.static "CoastTiles" "ROW_STEPS" "[I") (.int 6)) (.int 0)) (by decide +kernel))).trans (congrArg (fun z => some (Value.int z)) (by decide)) | 7, _ => (va_eqt (hs (Cond.eq (.elem (.static "CoastTiles" "ROW_STEPS" "[I") (.int 7)) (.int (-1))) (by decide +kernel))).trans (congrArg (fun z => some (Value.int z)) (by decide)) | _ + 8, h => absurd h (by omega)) hA
  have Z1 := va_Zof (A := A) (hts (Cond.laysStatic "CoastTiles" "ROW_STEPS" "[I") (List.mem_of_getElem? (i := 257) (by decide +kernel))) (hts (Cond.initialized "CoastTiles") (List.mem_of_getElem? (i := 45) (by decide +kernel))) e1 hA
  obtain ⟨t2, e2, T2⟩ := va_Tof (tm := .static "CoastTiles" "COLUMN_STEPS" "[I") (ty := .int) (N := 8) (f := fun j => .int (iI (zcol (j : Nat)))) (by decide) (hs (Cond.arrayOf (.static "CoastTiles" "COLUMN_STEPS" "[I") .int) (by decide +kernel)) (va_eqt (hs (Cond.eq (.length (.static "CoastTiles" "COLUMN_STEPS" "[I")) (.int 8)) (by decide +kernel))) (fun j hj => match j, hj with | 0, _ => (va_eqt (hs (Cond.eq (.elem (.static "CoastTiles" "COLUMN_STEPS" "[I") (.int 0)) (.int 0)) (by decide +kernel))).trans (congrArg (fun z => some (Value.int z)) (by decide)) | 1, _ => (va_eqt (hs (Cond.eq (.elem (.static "CoastTiles" "COLUMN_STEPS" "[I") (.int 1)) (.int 1)) (by decide +kernel))).trans (congrArg (fun z => some (Value.int z)) (by decide)) | 2, _ => (va_eqt (hs (Cond.eq (.elem (.static "CoastTiles" "COLUMN_STEPS" "[I") (.int 2)) (.int 1)) (by decide +kernel))).trans (congrArg (fun z => some (Value.int z)) (by decide)) | 3, _ => (va_eqt (hs (Cond.eq (.elem (.static "CoastTiles" "COLUMN_STEPS" "[I") (.int 3)) (.int 1)) (by decide +kernel))).trans (congrArg (fun z => some (Value.int z)) (by decide)) | 4, _ => (va_eqt (hs (Cond.eq (.elem (.static "CoastTiles" "COLUMN_STEPS" "[I") (.int 4)) (.int 0)) (by decide +kernel))).trans (congrArg (fun z => some (Value.int z)) (by decide)) | 5, _ => (va_eqt (hs (Cond.eq (.elem (.static "CoastTiles" "COLUMN_STEPS" "[I") (.int 5)) (.int (-1))) (by decide +kernel))).trans (congrArg (fun z => some (Value.int z)) (by decide)) | 6, _ => (va_eqt (hs (Cond.eq (.elem (.static "CoastTiles" "COLUMN_STEPS" "[I") (.int 6)) (.int (-1))) (by decide +kernel))).trans (congrArg (fun z => some (Value.int z)) (by decide)) | 7, _ => (va_eqt (hs (Cond.eq (.elem (.static "CoastTiles" "COLUMN_STEPS" "[I") (.int 7)) (.int (-1))) (by decide +kernel))).trans (congrArg (fun z => some (Value.int z)) (by decide)) | _ + 8, h => absurd h (by omega)) hA
  have Z2 := va_Zof (A := A) (hts (Cond.laysStatic "CoastTiles" "COLUMN_STEPS" "[I") (List.mem_of_getElem? (i := 262) (by decide +kernel))) (hts (Cond.initialized "CoastTiles") (List.mem_of_getElem? (i := 45) (by decide +kernel))) e2 hA
  exact ⟨t1, t2, Z1, T1, Z2, T2⟩
set_option maxRecDepth 100000 in
set_option maxHeartbeats 8000000 in
theorem zlaw_entry0 {X : CX} (hc : zGx KL_law 600000 7302250 X) (b : Nat) (hend : ∀ (q1 q2 : Nat) (a1 a2 : Nat → Nat), zJG X (zWo (List.range 53) (zadL b q1 q2 a1 a2) (zdA X) zMI) (53, 6930) 18 [(3, .int (iI 0)), (2, .ref q2), (1, .ref q1), (0, .ref b)] []) : zJG X [] (0, 0) 0 [(0, .ref b)] [] := by
  refine g_new hc inX5 tyX5 tyX5_ok (List.mem_filter.mpr ⟨List.mem_of_getElem? (i := 56) (by decide +kernel), rfl⟩) (List.mem_filter.mpr ⟨List.mem_of_getElem? (i := 57) (by decide +kernel), rfl⟩) (List.mem_filter.mpr ⟨List.mem_of_getElem? (i := 45) (by decide +kernel), rfl⟩) (ci := 5) rfl (fs := [.null, .null, .null, .null, .int (iI 0), .null, .null, .null]) (fun j hj => match j, hj with | 0, _ => rfl | 1, _ => rfl | 2, _ => rfl | 3, _ => rfl | 4, _ => rfl | 5, _ => rfl | 6, _ => rfl | 7, _ => rfl | _ + 8, h => absurd h (by omega)) ⟨Nat.le_of_ble_eq_true rfl, Nat.le_of_ble_eq_true rfl⟩ dL_law_0 (fun q1 => zJG_eqc (ws' := [(q1, .inr (5, [.null, .null, .null, .null, .int (iI 0), .null, .null, .null]))]) (cs' := (1, 8)) rfl rfl ?_)
  refine g_dup hc dL_law_3 ?_
  refine g_call hc ct_X5_init ok_X5_init rfl (by decide) (List.mem_filter.mpr ⟨List.mem_of_getElem? (i := 58) (by decide +kernel), rfl⟩) (List.mem_filter.mpr ⟨List.mem_of_getElem? (i := 59) (by decide +kernel), rfl⟩) rfl 0 rfl [] rfl (by decide) (wr := []) rfl (Nat.le_of_ble_eq_true rfl) ⟨Nat.le_of_ble_eq_true rfl, Nat.le_of_ble_eq_true rfl⟩ dL_law_4 (fun a1 => zJG_eqc (ws' := zW5 (zdA X) q1 a1) (cs' := (38, 3336)) rfl rfl ?_)
  refine g_ast hc (lv' := [(1, .ref q1), (0, .ref b)]) rfl (by decide) dL_law_7 ?_
  refine g_new hc inX6 tyX6 tyX6_ok (List.mem_filter.mpr ⟨List.mem_of_getElem? (i := 587) (by decide +kernel), rfl⟩) (List.mem_filter.mpr ⟨List.mem_of_getElem? (i := 588) (by decide +kernel), rfl⟩) (List.mem_filter.mpr ⟨List.mem_of_getElem? (i := 52) (by decide +kernel), rfl⟩) (ci := 6) rfl (fs := [.null, .null, .int (iI 0), .null, .int (iI 0), .null, .int (iI 0), .null, .null, .null, .null, .null, .int (iI 0), .null, .null, .null, .null, .null, .int (iI 0), .int (iI 0), .int (iI 0), .int (iI 0)]) (fun j hj => match j, hj with | 0, _ => rfl | 1, _ => rfl | 2, _ => rfl | 3, _ => rfl | 4, _ => rfl | 5, _ => rfl | 6, _ => rfl | 7, _ => rfl | 8, _ => rfl | 9, _ => rfl | 10, _ => rfl | 11, _ => rfl | 12, _ => rfl | 13, _ => rfl | 14, _ => rfl | 15, _ => rfl | 16, _ => rfl | 17, _ => rfl | 18, _ => rfl | 19, _ => rfl | 20, _ => rfl | 21, _ => rfl | _ + 22, h => absurd h (by omega)) ⟨Nat.le_of_ble_eq_true rfl, Nat.le_of_ble_eq_true rfl⟩ dL_law_8 (fun q2 => zJG_eqc (ws' := zW5 (zdA X) q1 a1 ++ [(q2, .inr (6, [.null, .null, .int (iI 0), .null, .int (iI 0), .null, .int (iI 0), .null, .null, .null, .null, .null, .int (iI 0), .null, .null, .null, .null, .null, .int (iI 0), .int (iI 0), .int (iI 0), .int (iI 0)]))]) (cs' := (39, 3358)) rfl rfl ?_)
  refine g_dup hc dL_law_11 ?_
  refine g_call hc ct_X6_init ok_X6_init rfl (by decide) (List.mem_filter.mpr ⟨List.mem_of_getElem? (i := 589) (by decide +kernel), rfl⟩) (List.mem_filter.mpr ⟨List.mem_of_getElem? (i := 590) (by decide +kernel), rfl⟩) rfl 38 rfl [0, 1, 2, 3, 4, 5, 6, 7, 8, 9, 10, 11, 12, 13, 14, 15, 16, 17, 18, 19, 20, 21, 22, 23, 24, 25, 26, 27, 28, 29, 30, 31, 32, 33, 34, 35, 36, 37] (by decide) (by decide) (wr := zW5 (zdA X) q1 a1) rfl (Nat.le_of_ble_eq_true rfl) ⟨Nat.le_of_ble_eq_true rfl, Nat.le_of_ble_eq_true rfl⟩ dL_law_12 (fun a2 => zJG_eqc (ws' := zW5 (zdA X) q1 a1 ++ zW6 (zdA X) q2 a2) (cs' := (53, 6930)) rfl rfl ?_)
  refine g_ast hc (lv' := [(2, .ref q2), (1, .ref q1), (0, .ref b)]) rfl (by decide) dL_law_15 ?_
  refine g_const hc 0 (Or.inl ⟨dL_law_16, rfl⟩) ?_
  refine g_ist hc (lv' := [(3, .int (iI 0)), (2, .ref q2), (1, .ref q1), (0, .ref b)]) rfl (by decide) dL_law_17 ?_
  refine g_arr (a := a1 32) (N := 5) (cA := zdA X 3) (f := fun j => some (zb 27 q1 a1 (zMX 32 (j : Nat)).toNat)) (g := fun j => some (zadL b q1 q2 a1 a2 (zMX 32 (j : Nat)).toNat)) 32 rfl (fun j hj => match j, hj with | 0, _ => rfl | 1, _ => rfl | 2, _ => rfl | 3, _ => rfl | 4, _ => rfl | _ + 5, h => absurd h (by omega)) (zJG_eq (zWo_all b q1 q2 a1 a2 (zdA X)) (hend q1 q2 a1 a2))
set_option maxHeartbeats 4000000 in
set_option maxRecDepth 100000 in
/-- THE LAW, from its entry -/
theorem whole_start {p : Program} {e : Env} {s : State} {m : MethodId} {below : List Frame} {meth : Method} {c : Code} (l : Launch) (hflags : l.flags = flags0) {b L : Nat} {xs : Nat → Int32} (hL : L ≤ 2560) (C0 : lw_At p s m meth c b L xs) : W p l e room_1 s m #[Value.ref b] below meth c s.heap [] 0 0 (lw_Z below #[Value.ref b] s) (entryFrame m ([Value.ref b] : List Value).toArray 4) := by
  obtain ⟨hx, hb, hr, hml, hown, hts, hX, hbl, hlocks, hgv⟩ := id C0
  have hTB : ∀ w ∈ TB, w.before #[Value.ref b] s = true := fun w hw => hts w (List.mem_filter.mp hw).1
  obtain ⟨D, dA, hK⟩ := zdA_ex hts
  have hNW : ∀ w ∈ zNW, va_Nw w s := fun w hw => by
    have h1 : zisN w = true := (List.mem_filter.mp hw).2
    have h2 := hts w (List.mem_filter.mp hw).1
    cases w <;> first | exact va_Nw.of rfl h2 | exact absurd h1 (by simp [zisN])
  have hSt : zSta (fun q : Nat => s.heap.size ≤ q) s s.heap := zSta_ex hts hgv (fun a h => Nat.not_le.mpr h)
  have hAO : va_AO "CoastTiles$State" s := va_AO.of (hts (Cond.arrayOver (.object "CoastTiles$State")) (List.mem_of_getElem? (i := 127) (by decide +kernel)))
  have hG : zGx KL_law 600000 7302250 (p, l, e, room_1, s, m, #[Value.ref b], below, meth, c, D, dA, [], fun _ => 0, fun q : Nat => s.heap.size ≤ q, (0, 0), 4, lw_Z below #[Value.ref b] s) :=
    ⟨hx, hb, hml, hr, hlocks, hown, hTB, hK, fun q h => h, by decide, by decide, by decide, by decide, hNW, rfl, hAO, fun h => by cases h⟩
  have hl := lv_entry ([.ref b]) (n := 4) (Nat.le_of_ble_eq_true rfl)
  rw [lg_entry_eq]
  refine zlaw_entry0 hG b (fun q1 q2 a1 a2 => ?_) s.heap [] _ (fun k q h => by simp at h) ⟨fun i j p q h => by simp at h, fun k q h => by simp at h⟩ va_S.rf hl
  intro H locs ls hP hD hS hv
  have hcx : zCx KL_law (p, l, e, room_1, s, m, #[Value.ref b], below, meth, c, D, dA, List.range 53, zadL b q1 q2 a1 a2, fun q : Nat => s.heap.size ≤ q, (53, 6930), 4, lw_Z below #[Value.ref b] s) := by
    refine ⟨hx, hb, hml, hr, hlocks, hown, hTB, hK, fun q h => h, fun i hi => ?_, fun i hi j hj hij => ?_, List.nodup_range, fun k hk => ?_, fun _ => hSt, by decide, by decide, by decide, by decide, hNW, rfl⟩
    · obtain ⟨q, -, h2⟩ := zWo_at hi (zadL b q1 q2 a1 a2) dA zMI
      exact hD.2 q _ h2
    · obtain ⟨q, h1, h2⟩ := zWo_at hi (zadL b q1 q2 a1 a2) dA zMI
      obtain ⟨q', h1', h2'⟩ := zWo_at hj (zadL b q1 q2 a1 a2) dA zMI
      have hqq := hD.1 q q' _ _ h2 h2' hij
      subst hqq
      exact Option.some.inj (h1.symm.trans h1')
    · exact List.mem_range.mpr (of_decide_eq_true hk)
  have hend : ∀ (i : Int) (M' : Mem), zJW (p, l, e, room_1, s, m, #[Value.ref b], below, meth, c, D, dA, List.range 53, zadL b q1 q2 a1 a2, fun q : Nat => s.heap.size ≤ q, (53, 6930), 4, lw_Z below #[Value.ref b] s) 1184 [(3, zI i), (2, zR 38), (1, zR 27), (0, zR 60)] [zI 1] M' := by
    intro i M' H locs ls hP hS hv
    refine W.widen (k := 600000) (n := 7302250) (by decide) (by decide) ?_
    refine va_forget (fun q hq => hS.2.2 q hq) ?_
    exact lw_ret (d0 := s.drawn) (Drawn.sameBut.refl s.drawn lw_cs) hx hb hr hlocks dL_law_1184
  exact zlaw_loop hcx ⟨hX, hbl, Nat.not_le.mpr hbl⟩ hL hend (L + 1) 0 (by omega) (by omega) zMI zMI_SR H locs ls hP hS hv
