/-! ===== p40: many tiles become land or water, one behind another ===== -/
def stL (C V : Nat → Bool) (w : Int) (k : Nat) (s : Mem × Int) : Mem × Int := if C k = true then (beM s.1 ((k : Int) / w) ((k : Int) % w) (V k), s.2 + zbz (decide (laZ (s.1 38) ((k : Int) / w) ((k : Int) % w) = 1) != V k)) else s
def p4V (t : TS) (v : Int → Int → Bool) (M0 : Mem) (s : Mem × Int) (P : Int → Int → Prop) : Prop := p4M s.1 (tsV t P v) ∧ s.2 = tsVc t P v ∧ TOk (tsV t P v) ∧ ∀ k : Nat, k ≠ 38 → k ≠ 39 → s.1 k = M0 k
theorem p4V_0 {t : TS} {v : Int → Int → Bool} {M : Mem} (hO : TOk t) (hM : p4M M t) : p4V t v M (M, 0) (fun _ _ => False) := by
  unfold p4V
  rw [(tsV_no (t := t) (v := v)).1, (tsV_no (t := t) (v := v)).2]
  exact ⟨hM, rfl, hO, fun _ _ _ => rfl⟩
theorem tsV_dm {t : TS} {P : Int → Int → Prop} {v : Int → Int → Bool} : tH (tsV t P v) = tH t ∧ tW (tsV t P v) = tW t ∧ tO (tsV t P v) = tO t := ⟨rfl, rfl, rfl⟩
theorem inT_V {t : TS} {P : Int → Int → Prop} {v : Int → Int → Bool} {r c : Int} : inT (tsV t P v) r c = inT t r c := rfl
theorem zbz_d1 (b : Bool) : decide (zbz b = 1) = b := by cases b <;> rfl
theorem la_d1 {f : Int → Int} {t : TS} (hO : TOk t) (hF : p4F f t) {r c : Int} (hi : inT t r c = true) : decide (laZ f r c = 1) = laT t r c := by
  have hib := inT_bd hi
  rw [hF r c (by omega) (by omega) (by omega) (by omega), zbz_d1]
theorem p4V_s {t : TS} {v : Int → Int → Bool} {M0 : Mem} {s : Mem × Int} {P : Int → Int → Prop} {p q : Int} {b : Bool} (h : p4V t v M0 s P) (hi : inT t p q = true) (hb : b = v p q) : p4V t v M0 (beM s.1 p q b, s.2 + zbz (decide (laZ (s.1 38) p q = 1) != b)) (fun r c => P r c ∨ (r = p ∧ c = q)) := by
  subst hb
  obtain ⟨h1, h2, h3, h4⟩ := h
  have hs := tsV_s (t := t) (P := P) (v := v) (p := p) (q := q)
  have hi' : inT (tsV t P v) p q = true := hi
  refine ⟨?_, ?_, ?_, fun k k1 k2 => (beM_off k1 k2).trans (h4 k k1 k2)⟩
  · rw [← hs.1]
    exact be_M h3 h1 hi'
  · show s.2 + zbz (decide (laZ (s.1 38) p q = 1) != v p q) = _
    rw [hs.2, h2, la_d1 h3 h1.1 hi', hi, Bool.true_and]
    rfl
  · rw [← hs.1]
    exact TOk_S h3
theorem p4V_c {t : TS} {v : Int → Int → Bool} {M0 : Mem} {s : Mem × Int} {P P' : Int → Int → Prop} (h : p4V t v M0 s P) (hp : ∀ r c : Int, inT t r c = true → (P r c ↔ P' r c)) : p4V t v M0 s P' := by
  have hc := tsV_congr (t := t) (P := P) (P' := P') (v := v) (v' := v) hp (fun _ _ _ _ => rfl)
  unfold p4V at h ⊢
  rw [← hc.1, ← hc.2]
  exact h
/-- after n tiles -/
def p4P1 (C : Nat → Bool) (w : Int) (n : Nat) : Int → Int → Prop := fun r c => ∃ k : Nat, k < n ∧ C k = true ∧ r = (k : Int) / w ∧ c = (k : Int) % w
theorem p4V_n {t : TS} {v : Int → Int → Bool} {M : Mem} {C V : Nat → Bool} (hO : TOk t) (hM : p4M M t) (hV : ∀ k : Nat, (k : Int) < tH t * tW t → V k = v ((k : Int) / tW t) ((k : Int) % tW t)) : ∀ n : Nat, (n : Int) ≤ tH t * tW t → p4V t v M (zrep (stL C V (tW t)) n (M, 0)) (p4P1 C (tW t) n)
  | 0, _ => p4V_c (p4V_0 hO hM) (fun r c _ => ⟨fun h => h.elim, fun ⟨k, h, _⟩ => absurd h (Nat.not_lt_zero k)⟩)
  | n + 1, hn => by
    have ih := p4V_n (C := C) hO hM hV n (by omega)
    obtain ⟨hi, -⟩ := kx_in hO (k := n) (by omega)
    rw [zrep_succ]
    unfold stL
    by_cases hc : C n = true
    · rw [if_pos hc]
      refine p4V_c (p4V_s ih hi (hV n (by omega))) (fun r c _ => ?_)
      constructor
      · rintro (⟨k, h1, h2⟩ | ⟨h1, h2⟩)
        · exact ⟨k, by omega, h2⟩
        · exact ⟨n, by omega, hc, h1, h2⟩
      · rintro ⟨k, h1, h2, h3, h4⟩
        by_cases hk : k = n
        · subst hk
          exact Or.inr ⟨h3, h4⟩
        · exact Or.inl ⟨k, by omega, h2, h3, h4⟩
    · rw [if_neg hc]
      refine p4V_c ih (fun r c _ => ?_)
      constructor
      · rintro ⟨k, h1, h2⟩
        exact ⟨k, by omega, h2⟩
      · rintro ⟨k, h1, h2, h3, h4⟩
        by_cases hk : k = n
        · subst hk
          exact absurd h2 hc
        · exact ⟨k, by omega, h2, h3, h4⟩
theorem kx_of {t : TS} (hO : TOk t) {r c : Int} (hi : inT t r c = true) : ∃ k : Nat, (k : Int) < tH t * tW t ∧ (k : Int) / tW t = r ∧ (k : Int) % tW t = c := by
  have hb := inT_bd hi
  have hw := hO.2.2.1
  have hpos : 0 ≤ tW t * r := Int.mul_nonneg (by omega) hb.1
  have h1 : tW t * r ≤ tW t * (tH t - 1) := Int.mul_le_mul_of_nonneg_left (by omega) (by omega)
  have h2 : tW t * (tH t - 1) = tH t * tW t - tW t := by rw [Int.mul_sub, Int.mul_comm, Int.mul_one]
  refine ⟨(tW t * r + c).toNat, by omega, ?_, ?_⟩
  · rw [Int.toNat_of_nonneg (by omega), Int.add_comm, Int.add_mul_ediv_left _ _ (by omega : tW t ≠ 0), Int.ediv_eq_zero_of_lt (by omega) (by omega)]
    omega
  · rw [Int.toNat_of_nonneg (by omega), Int.add_comm, Int.add_mul_emod_self_left, Int.emod_eq_of_lt (by omega) (by omega)]
def brC (w r c rad : Int) (k : Nat) : Bool := decide (((k : Int) / w - r) * ((k : Int) / w - r) + ((k : Int) % w - c) * ((k : Int) % w - c) ≤ rad * rad)
theorem br_end {t : TS} {M : Mem} {r c rad : Int} {vb : Bool} (hO : TOk t) (hM : p4M M t) : p4V t (fun _ _ => vb) M (zrep (stL (brC (tW t) r c rad) (fun _ => vb) (tW t)) (tH t * tW t).toNat (M, 0)) (zdk r c rad) := by
  have hw := zhw hO.1 hO.2.1 hO.2.2.1 hO.2.2.2.1
  refine p4V_c (p4V_n (v := fun _ _ => vb) (V := fun _ => vb) (C := brC (tW t) r c rad) hO hM (fun _ _ => rfl) (tH t * tW t).toNat (by omega)) (fun r' c' hi => ?_)
  constructor
  · rintro ⟨k, h1, h2, h3, h4⟩
    have h2 := of_decide_eq_true h2
    rw [← h3, ← h4] at h2
    exact h2
  · intro h
    obtain ⟨k, h1, h2, h3⟩ := kx_of hO hi
    refine ⟨k, by omega, decide_eq_true ?_, h2.symm, h3.symm⟩
    rw [h2, h3]
    exact h
theorem sm_end {t : TS} {M : Mem} {v : Int → Int → Bool} (hO : TOk t) (hM : p4M M t) : p4V t v M (zrep (stL (fun _ => true) (fun k => v ((k : Int) / tW t) ((k : Int) % tW t)) (tW t)) (tH t * tW t).toNat (M, 0)) (fun _ _ => True) := by
  have hw := zhw hO.1 hO.2.1 hO.2.2.1 hO.2.2.2.1
  refine p4V_c (p4V_n (v := v) (V := fun k => v ((k : Int) / tW t) ((k : Int) % tW t)) (C := fun _ => true) hO hM (fun _ _ => rfl) (tH t * tW t).toNat (by omega)) (fun r' c' hi => ?_)
  constructor
  · intro _; trivial
  · intro _
    obtain ⟨k, h1, h2, h3⟩ := kx_of hO hi
    exact ⟨k, by omega, rfl, h2.symm, h3.symm⟩
theorem tsVc_bd {t : TS} {P : Int → Int → Prop} {v : Int → Int → Bool} (hO : TOk t) : 0 ≤ tsVc t P v ∧ tsVc t P v ≤ 144 := by
  have hw := zhw hO.1 hO.2.1 hO.2.2.1 hO.2.2.2.1
  have h := zS2_bd (t := t) (g := fun r c => if (zcl (P r c) && (laT t r c != v r c)) = true then 1 else 0) (b := 1) ⟨by have := hO.1; omega, hO.2.2.1⟩ (fun r c => by
    show 0 ≤ (if (zcl (P r c) && (laT t r c != v r c)) = true then (1 : Int) else 0) ∧ (if (zcl (P r c) && (laT t r c != v r c)) = true then (1 : Int) else 0) ≤ 1
    split <;> omega)
  unfold tsVc
  omega
theorem sq_small {x : Int} (h : -12 ≤ x ∧ x ≤ 12) : 0 ≤ x * x ∧ x * x ≤ 144 := by
  obtain ⟨h1, h2⟩ := h
  have : x = -12 ∨ x = -11 ∨ x = -10 ∨ x = -9 ∨ x = -8 ∨ x = -7 ∨ x = -6 ∨ x = -5 ∨ x = -4 ∨ x = -3 ∨ x = -2 ∨ x = -1 ∨ x = 0 ∨ x = 1 ∨ x = 2 ∨ x = 3 ∨ x = 4 ∨ x = 5 ∨ x = 6 ∨ x = 7 ∨ x = 8 ∨ x = 9 ∨ x = 10 ∨ x = 11 ∨ x = 12 := by omega
  rcases this with rfl | rfl | rfl | rfl | rfl | rfl | rfl | rfl | rfl | rfl | rfl | rfl | rfl | rfl | rfl | rfl | rfl | rfl | rfl | rfl | rfl | rfl | rfl | rfl | rfl <;> decide
-- begin: water, no pins
theorem piZ_none0 : ∀ j : Nat, j < 4 → zan (zsr 16777215 (6 * (j : Int))) 63 = 63 := by decide
theorem be_new {M : Mem} {t : TS} {hh ww : Int} (hT2 : M 40 2 = zbz (tO t)) (h1 : 1 ≤ hh ∧ hh ≤ 12) (h2 : 1 ≤ ww ∧ ww ≤ 12) : p4M (frM (filM (filM (zup (zup M 40 0 hh) 40 1 ww) 39 36 16777215) 38 14 0) 38 40 14) (tsW hh ww (tO t)) := by
  have hO : TOk (tsW hh ww (tO t)) := TOk_W h1 h2
  refine fr_M hO ?_ (fun r c hi => ?_) (fun r c hi => ?_)
  · have e : filM (filM (zup (zup M 40 0 hh) 40 1 ww) 39 36 16777215) 38 14 0 40 = zup (zup M 40 0 hh) 40 1 ww 40 := by
      funext z
      show (if (40 : Nat) = 38 ∧ 0 ≤ z ∧ z < 14 then (0 : Int) else if (40 : Nat) = 39 ∧ 0 ≤ z ∧ z < 36 then 16777215 else zup (zup M 40 0 hh) 40 1 ww 40 z) = _
      rw [if_neg (fun h => absurd h.1 (by decide)), if_neg (fun h => absurd h.1 (by decide))]
    rw [e]
    unfold p4T
    refine ⟨?_, ?_, ?_⟩
    · rw [zup_off (by decide), zup_at]; rfl
    · rw [zup_at]; rfl
    · rw [zup_off (by decide), zup_off (by decide)]; exact hT2
  · have hib := inT_bd hi
    have hH : tH (tsW hh ww (tO t)) = hh := rfl
    have hW : tW (tsW hh ww (tO t)) = ww := rfl
    rw [hH, hW] at hib
    rw [laZ_bt (by omega)]
    have e : filM (filM (zup (zup M 40 0 hh) 40 1 ww) 39 36 16777215) 38 14 0 38 (r + 1) = 0 := if_pos ⟨rfl, by omega, by omega⟩
    rw [e, zbt_0 _ (by omega)]
    unfold laT
    rw [if_pos hi]
    rfl
  · have hib := inT_bd hi
    have hH : tH (tsW hh ww (tO t)) = hh := rfl
    have hW : tW (tsW hh ww (tO t)) = ww := rfl
    rw [hH, hW] at hib
    have e : filM (filM (zup (zup M 40 0 hh) 40 1 ww) 39 36 16777215) 38 14 0 39 (3 * r + c / 4) = 16777215 := by
      show (if (39 : Nat) = 38 ∧ 0 ≤ 3 * r + c / 4 ∧ 3 * r + c / 4 < 14 then (0 : Int) else if (39 : Nat) = 39 ∧ 0 ≤ 3 * r + c / 4 ∧ 3 * r + c / 4 < 36 then 16777215 else _) = _
      rw [if_neg (fun h => absurd h.1 (by decide)), if_pos ⟨rfl, by omega, by omega⟩]
    obtain ⟨j, hj⟩ := Int.eq_ofNat_of_zero_le (show 0 ≤ c % 4 by omega)
    unfold piZ
    rw [e, hj, piZ_none0 j (by omega)]
    have hp : piT (tsW hh ww (tO t)) r c = -1 := by
      unfold piT
      rw [if_pos hi]
      rfl
    unfold pcT
    rw [if_pos hp]
