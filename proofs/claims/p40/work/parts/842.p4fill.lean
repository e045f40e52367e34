/-! ===== p40: a fill, as the law does it ===== -/
noncomputable def flV (t : TS) (wb : Bool) (P : Int → Int → Prop) : TS := tsV t P (fun _ _ => !wb)
def flP (t : TS) (r c : Int) (P : Int → Int → Prop) : Prop := P r c ∧ ∀ a b : Int, P a b → dT t r c 2 a b ≠ -1
def flI (t : TS) (r c : Int) (wb : Bool) (M M1 : Mem) (m : Int) (P : Int → Int → Prop) : Prop := p4V t (fun _ _ => !wb) M (M1, m) P ∧ flP t r c P
noncomputable def flH (t : TS) (P : Int → Int → Prop) (a b d : Int) : Bool := inT t (a + zrow d) (b + zcol d) && zcl (P (a + zrow d) (b + zcol d))
noncomputable def flB (t : TS) (P : Int → Int → Prop) (a b : Int) : Bool := (((false || flH t P a b 0) || flH t P a b 2) || flH t P a b 4) || flH t P a b 6
def flC (t : TS) (wb : Bool) (P : Int → Int → Prop) (a b : Int) : Prop := flB t P a b = true → laT t a b = wb → P a b
theorem flB_t {t : TS} {P : Int → Int → Prop} {a b : Int} : flB t P a b = true ↔ ∃ k : Nat, k < 4 ∧ inT t (a + zrow ((2 * k : Nat) : Int)) (b + zcol ((2 * k : Nat) : Int)) = true ∧ P (a + zrow ((2 * k : Nat) : Int)) (b + zcol ((2 * k : Nat) : Int)) := by
  have key : ∀ d : Int, flH t P a b d = true ↔ inT t (a + zrow d) (b + zcol d) = true ∧ P (a + zrow d) (b + zcol d) := fun d => by
    unfold flH
    rw [Bool.and_eq_true, zcl_t]
  unfold flB
  rw [Bool.or_eq_true, Bool.or_eq_true, Bool.or_eq_true, Bool.or_eq_true, key, key, key, key]
  constructor
  · rintro ((((h | h) | h) | h) | h)
    · cases h
    · exact ⟨0, by decide, h⟩
    · exact ⟨1, by decide, h⟩
    · exact ⟨2, by decide, h⟩
    · exact ⟨3, by decide, h⟩
  · rintro ⟨k, hk, h⟩
    have : k = 0 ∨ k = 1 ∨ k = 2 ∨ k = 3 := by omega
    rcases this with rfl | rfl | rfl | rfl
    · exact Or.inl (Or.inl (Or.inl (Or.inr h)))
    · exact Or.inl (Or.inl (Or.inr h))
    · exact Or.inl (Or.inr h)
    · exact Or.inr h
section P4FL
variable {t : TS} {r c : Int} {wb : Bool} {P : Int → Int → Prop}
theorem fl_la (hO : TOk t) (hi : inT t r c = true) (hwb : laT t r c = wb) (hP : flP t r c P) {x y : Int} (hx : inT t x y = true) : (P x y → laT t x y = wb ∧ laT (flV t wb P) x y = !wb) ∧ (¬ P x y → laT (flV t wb P) x y = laT t x y) := by
  have ht : tH t ≤ 12 ∧ tW t ≤ 12 := ⟨hO.2.1, hO.2.2.2.1⟩
  refine ⟨fun h => ⟨((dT_in ht hi (hP.2 x y h)).2).trans hwb, ?_⟩, fun h => ?_⟩
  · unfold flV
    rw [laT_V, hx, zcl_t.mpr h]
    rfl
  · unfold flV
    rw [laT_V, hx, zcl_f h]
    rfl
theorem fl_h (hO : TOk t) (hi : inT t r c = true) (hwb : laT t r c = wb) (hP : flP t r c P) {a b d : Int} (hx : inT t (a + zrow d) (b + zcol d) = true) : (zbz (laT (flV t wb P) (a + zrow d) (b + zcol d)) = zbz (laT t (a + zrow d) (b + zcol d)) → flH t P a b d = false) ∧ (zbz (laT (flV t wb P) (a + zrow d) (b + zcol d)) ≠ zbz (laT t (a + zrow d) (b + zcol d)) → flH t P a b d = true) := by
  have h := fl_la hO hi hwb hP hx
  unfold flH
  rw [hx, Bool.true_and]
  by_cases hp : P (a + zrow d) (b + zcol d)
  · obtain ⟨h1, h2⟩ := h.1 hp
    rw [h1, h2, zcl_t.mpr hp]
    refine ⟨fun h3 => ?_, fun _ => rfl⟩
    exfalso
    revert h3
    cases wb <;> decide
  · rw [h.2 hp, zcl_f hp]
    exact ⟨fun _ => rfl, fun h3 => absurd rfl h3⟩
theorem fl_h0 {a b d : Int} (hx : ¬ (0 ≤ a + zrow d ∧ a + zrow d < tH t ∧ 0 ≤ b + zcol d ∧ b + zcol d < tW t)) : flH t P a b d = false := by
  unfold flH
  rw [show inT t (a + zrow d) (b + zcol d) = false from decide_eq_false hx, Bool.false_and]
/-- the first tile -/
theorem fl_0 {M : Mem} (hO : TOk t) (hM : p4M M t) (hi : inT t r c = true) (hwb : laT t r c = wb) : flI t r c wb M (beM M r c (!wb)) 1 (fun a b => a = r ∧ b = c) := by
  have ht : tH t ≤ 12 ∧ tW t ≤ 12 := ⟨hO.2.1, hO.2.2.2.1⟩
  refine ⟨?_, ⟨rfl, rfl⟩, fun a b h => by rw [h.1, h.2]; exact rch_refl ht hi⟩
  have h := p4V_s (v := fun _ _ => !wb) (b := !wb) (p4V_0 hO hM) hi rfl
  have h2 := p4V_c (P' := fun a b => a = r ∧ b = c) h (fun a b _ => ⟨fun h => h.resolve_left id, Or.inr⟩)
  have e : (0 : Int) + zbz (decide (laZ (M 38) r c = 1) != !wb) = 1 := by
    rw [la_d1 hO hM.1 hi, hwb]
    cases wb <;> rfl
  rw [show ((M, (0 : Int)) : Mem × Int).2 = 0 from rfl, show ((M, (0 : Int)) : Mem × Int).1 = M from rfl, e] at h2
  exact h2
/-- one more -/
theorem fl_s {M M1 : Mem} {m : Int} (hO : TOk t) (hi : inT t r c = true) (hwb : laT t r c = wb) (h : flI t r c wb M M1 m P) {a b : Int} (hab : inT t a b = true) (hb : flB t P a b = true) (hl : laT (flV t wb P) a b = wb) : flI t r c wb M (beM M1 a b (!wb)) (m + 1) (fun x y => P x y ∨ (x = a ∧ y = b)) := by
  have ht : tH t ≤ 12 ∧ tW t ≤ 12 := ⟨hO.2.1, hO.2.2.2.1⟩
  obtain ⟨hV, hP⟩ := h
  have h1 := fl_la hO hi hwb hP hab
  have hnp : ¬ P a b := fun hp => by
    have h2 := (h1.1 hp).2
    rw [hl] at h2
    revert h2
    cases wb <;> decide
  have hla : laT t a b = wb := by rw [← h1.2 hnp]; exact hl
  refine ⟨?_, Or.inl hP.1, fun x y hxy => ?_⟩
  · have h2 := p4V_s (b := !wb) hV hab rfl
    have e : zbz (decide (laZ (M1 38) a b = 1) != !wb) = 1 := by
      have e1 : laT (tsV t P (fun _ _ => !wb)) a b = wb := hl
      rw [la_d1 hV.2.2.1 hV.1.1 (show inT (tsV t P (fun _ _ => !wb)) a b = true from hab), e1]
      cases wb <;> rfl
    rw [show ((M1, m) : Mem × Int).2 = m from rfl, show ((M1, m) : Mem × Int).1 = M1 from rfl, e] at h2
    exact h2
  · rcases hxy with hxy | ⟨rfl, rfl⟩
    · exact hP.2 x y hxy
    · obtain ⟨k, hk, hin, hp⟩ := flB_t.mp hb
      obtain ⟨k', hk', e1, e2⟩ := zopp (e := 2) (Or.inr rfl) hk
      have hx1 : x + zrow ((2 * k : Nat) : Int) + zrow ((2 * k' : Nat) : Int) = x := by omega
      have hx2 : y + zcol ((2 * k : Nat) : Int) + zcol ((2 * k' : Nat) : Int) = y := by omega
      have hn := dT_next (e := 2) ht hi (hP.2 _ _ hp) hk' (by rw [hx1, hx2]; exact hab) (by rw [hx1, hx2]; exact hla.trans hwb.symm)
      rw [hx1, hx2] at hn
      exact hn.1
theorem fl_n (hO : TOk t) (hi : inT t r c = true) (hwb : laT t r c = wb) (hP : flP t r c P) {a b : Int} (hab : inT t a b = true) (hn : ¬ (flB t P a b = true ∧ laT (flV t wb P) a b = wb)) : flC t wb P a b := fun hb hl =>
  Classical.byContradiction fun hp => hn ⟨hb, ((fl_la hO hi hwb hP hab).2 hp).trans hl⟩
theorem fl_C (hO : TOk t) (hC : ∀ j : Nat, (j : Int) < tH t * tW t → flC t wb P ((j : Int) / tW t) ((j : Int) % tW t)) {a b : Int} (hab : inT t a b = true) : flC t wb P a b := by
  obtain ⟨k, h1, h2, h3⟩ := kx_of hO hab
  have h := hC k h1
  rw [h2, h3] at h
  exact h
theorem fl_all (hO : TOk t) (hi : inT t r c = true) (hwb : laT t r c = wb) (hP : flP t r c P) (hC : ∀ a b : Int, inT t a b = true → flC t wb P a b) : ∀ a b : Int, P a b ↔ dT t r c 2 a b ≠ -1 := by
  have ht : tH t ≤ 12 ∧ tW t ≤ 12 := ⟨hO.2.1, hO.2.2.2.1⟩
  have h1 := rch_ind (P := P) (e := 2) ht hi hP.1 (fun a b k hd hp hk hin hl => by
    have hin0 := dT_in (e := 2) ht hi hd
    refine hC _ _ hin (flB_t.mpr ?_) (hl.trans hwb)
    obtain ⟨k', hk', e1, e2⟩ := zopp (e := 2) (Or.inr rfl) hk
    have hx1 : a + zrow ((2 * k : Nat) : Int) + zrow ((2 * k' : Nat) : Int) = a := by omega
    have hx2 : b + zcol ((2 * k : Nat) : Int) + zcol ((2 * k' : Nat) : Int) = b := by omega
    refine ⟨k', hk', ?_, ?_⟩
    · rw [hx1, hx2]; exact hin0.1
    · rw [hx1, hx2]; exact hp)
  exact fun a b => ⟨hP.2 a b, h1 a b⟩
theorem fl_end {M M1 : Mem} {m : Int} (hO : TOk t) (hi : inT t r c = true) (hwb : laT t r c = wb) (h : flI t r c wb M M1 m P) (hC : ∀ a b : Int, inT t a b = true → flC t wb P a b) : p4V t (fun _ _ => !wb) M (M1, nC t 2 r c) (fun a b => dT t r c 2 a b ≠ -1) ∧ m = nC t 2 r c := by
  have ht : tH t ≤ 12 ∧ tW t ≤ 12 := ⟨hO.2.1, hO.2.2.2.1⟩
  have hA := fl_all hO hi hwb h.2 hC
  have h1 := p4V_c (P' := fun a b => dT t r c 2 a b ≠ -1) h.1 (fun a b _ => hA a b)
  have e : tsVc t (fun a b => dT t r c 2 a b ≠ -1) (fun _ _ => !wb) = nC t 2 r c := by
    rw [nC_eq hO hi]
    unfold tsVc
    refine zS2_congr fun a b _ _ _ _ => ?_
    unfold Rb
    by_cases hd : dT t r c 2 a b = -1
    · rw [zcl_f (fun h => h hd), decide_eq_false (fun h => h hd)]
      rfl
    · rw [zcl_t.mpr hd, decide_eq_true hd, (dT_in ht hi hd).2, hwb]
      cases wb <;> rfl
  have h2 : m = nC t 2 r c := by rw [← e]; exact h1.2.1
  rw [← h2]
  exact ⟨h1, rfl⟩
theorem fl_bd {M M1 : Mem} {m : Int} (hO : TOk t) (h : flI t r c wb M M1 m P) : 0 ≤ m ∧ m ≤ 144 := by
  have h1 := h.1.2.1
  have h2 := tsVc_bd (t := t) (P := P) (v := fun _ _ => !wb) hO
  rw [← h1] at h2
  exact h2
end P4FL
theorem p4_1m (b : Bool) : 1 - zbz b = zbz (!b) := by cases b <;> rfl
