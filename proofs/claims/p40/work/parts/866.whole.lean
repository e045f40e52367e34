set_option maxHeartbeats 4000000 in
set_option maxRecDepth 100000 in
/-- THE LAW, from its entry -/
theorem whole_start {p : Program} {e : Env} {s : State} {m : MethodId} {below : List Frame} {meth : Method} {c : Code} (l : Launch) (hflags : l.flags = flags0) {b L : Nat} {xs : Nat → Int32} (hL : L ≤ 260) (C0 : lw_At p s m meth c b L xs) : W p l e room_1 s m #[Value.ref b] below meth c s.heap [] 0 0 (lw_Z below #[Value.ref b] s) (entryFrame m ([Value.ref b] : List Value).toArray 24) := by
  obtain ⟨hx, hb, hr, hml, hown, hts, hX, hbl, hlocks, hgv⟩ := id C0
  have hTB : ∀ w ∈ TB, w.before #[Value.ref b] s = true := fun w hw => hts w (List.mem_filter.mp hw).1
  obtain ⟨D, dA, hK⟩ := zdA_ex hts
  have hNW : ∀ w ∈ zNW, va_Nw w s := fun w hw => by
    have h1 : zisN w = true := (List.mem_filter.mp hw).2
    have h2 := hts w (List.mem_filter.mp hw).1
    cases w <;> first | exact va_Nw.of rfl h2 | exact absurd h1 (by simp [zisN])
  have hSt : zSta (fun q : Nat => s.heap.size ≤ q) s s.heap := zSta_ex hts hgv (fun a h => Nat.not_le.mpr h)
  have hAO : va_AO "CoastTiles$State" s := va_AO.of (hts (Cond.arrayOver (.object "CoastTiles$State")) (List.mem_of_getElem? (i := 90) (by decide +kernel)))
  have hG : zGx (KL_law 38) 611376 7268119 (p, l, e, room_1, s, m, #[Value.ref b], below, meth, c, D, dA, [], fun _ => 0, fun q : Nat => s.heap.size ≤ q, (0, 0), 24, lw_Z below #[Value.ref b] s) :=
    ⟨hx, hb, hml, hr, hlocks, hown, hTB, hK, fun q h => h, by decide, by decide, by decide, by decide, hNW, rfl, hAO, fun h => by cases h⟩
  have hl := lv_entry ([.ref b]) (n := 24) (Nat.le_of_ble_eq_true rfl)
  rw [lg_entry_eq]
  refine zlaw_entry0 hG b (fun q1 a1 => ?_) s.heap [] _ (fun k q h => by simp at h) ⟨fun i j p q h => by simp at h, fun k q h => by simp at h⟩ va_S.rf hl
  intro H locs ls hP hD hS hv
  have hcx : zCx (KL_law 38) (p, l, e, room_1, s, m, #[Value.ref b], below, meth, c, D, dA, List.range 38, zadL b q1 a1, fun q : Nat => s.heap.size ≤ q, (38, 3336), 24, lw_Z below #[Value.ref b] s) := by
    refine ⟨hx, hb, hml, hr, hlocks, hown, hTB, hK, fun q h => h, fun i hi => ?_, fun i hi j hj hij => ?_, List.nodup_range, fun k hk => ?_, fun _ => hSt, by decide, by decide, by decide, by decide, hNW, rfl⟩
    · obtain ⟨q, -, h2⟩ := zWo_at hi (zadL b q1 a1) dA zMI
      exact hD.2 q _ h2
    · obtain ⟨q, h1, h2⟩ := zWo_at hi (zadL b q1 a1) dA zMI
      obtain ⟨q', h1', h2'⟩ := zWo_at hj (zadL b q1 a1) dA zMI
      have hqq := hD.1 q q' _ _ h2 h2' hij
      subst hqq
      exact Option.some.inj (h1.symm.trans h1')
    · exact List.mem_range.mpr (of_decide_eq_true hk)
  have hsc : zSc (p, l, e, room_1, s, m, #[Value.ref b], below, meth, c, D, dA, List.range 38, zadL b q1 a1, fun q : Nat => s.heap.size ≤ q, (38, 3336), 24, lw_Z below #[Value.ref b] s) L xs := ⟨hX, hbl, Nat.not_le.mpr hbl⟩
  have hcap : zCap (p, l, e, room_1, s, m, #[Value.ref b], below, meth, c, D, dA, List.range 38, zadL b q1 a1, fun q : Nat => s.heap.size ≤ q, (38, 3336), 24, lw_Z below #[Value.ref b] s) (3 + 26 * 21317) (53 + 26 * 255830) := ⟨by decide, by decide⟩
  have hni : ∀ k : Nat, 38 ≤ k → zNI k (p, l, e, room_1, s, m, #[Value.ref b], below, meth, c, D, dA, List.range 38, zadL b q1 a1, fun q : Nat => s.heap.size ≤ q, (38, 3336), 24, lw_Z below #[Value.ref b] s) := fun k hk h => by
    have := List.mem_range.mp h
    omega
  have ha0 : zAl 43 0 0 (p, l, e, room_1, s, m, #[Value.ref b], below, meth, c, D, dA, List.range 38, zadL b q1 a1, fun q : Nat => s.heap.size ≤ q, (38, 3336), 24, lw_Z below #[Value.ref b] s) (p, l, e, room_1, s, m, #[Value.ref b], below, meth, c, D, dA, List.range 38, zadL b q1 a1, fun q : Nat => s.heap.size ≤ q, (38, 3336), 24, lw_Z below #[Value.ref b] s) :=
    ⟨List.range 38, zadL b q1 a1, (38, 3336), rfl, Nat.le_refl _, Nat.le_refl _, fun i hi => by have := List.mem_range.mp hi; omega, fun i hi => ⟨hi, rfl⟩, fun _ _ => rfl, rfl⟩
  have hend : ∀ (X : CX) (M : Mem), zCx (KL_law 41) X → zAl 43 (3 + 26 * 21317) (53 + 26 * 255830) (p, l, e, room_1, s, m, #[Value.ref b], below, meth, c, D, dA, List.range 38, zadL b q1 a1, fun q : Nat => s.heap.size ≤ q, (38, 3336), 24, lw_Z below #[Value.ref b] s) X → zJW X 1481 [(5, zI ((26 : Nat) : Int)), (4, zR 40), (3, zR 39), (2, zR 38), (1, zR 27), (0, zR 60)] [] M := by
    intro X M hc ha
    refine law_end hc ?_
    obtain ⟨ids, ad, cs, rfl, z1, z2, -⟩ := ha
    have z1 : cs.1 ≤ 38 + (3 + 26 * 21317) := z1
    have z2 : cs.2 ≤ 3336 + (53 + 26 * 255830) := z2
    intro H locs ls hP hS hv
    refine W.widen (k := 611376) (n := 7268119) (by show cs.1 ≤ 611376; omega) (by show cs.2 ≤ 7268119; omega) ?_
    refine va_forget (fun q hq => hS.2.2 q hq) ?_
    exact lw_ret hx hb hr hlocks dL_law_1482
  refine law_start hcx ha0 (hcap.le (by omega) (by omega)) (hni 38 (by decide)) (hni 39 (by decide)) (hni 40 (by decide)) (fun X1 hc1 ha1 => ?_) H locs ls hP hS hv
  exact law_loop hsc hL hcap (hni 41 (by decide)) (hni 42 (by decide)) hend 26 0 X1 _ (tsX zMI 0) rfl hc1 (ha1.le (by omega) (by omega)) zMS_LI
