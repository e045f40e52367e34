/-! ===== p40: regions, told by their first tiles ===== -/
section P4R
variable {t : TS} {r0 c0 : Int} {e : Nat}
theorem rch_refl (ht : tH t ≤ 12 ∧ tW t ≤ 12) {r c : Int} (hi : inT t r c = true) : dT t r c e r c ≠ -1 := by
  rw [(dT_0 (e := e) ht hi).1]
  decide
theorem rch_ind {P : Int → Int → Prop} (ht : tH t ≤ 12 ∧ tW t ≤ 12) (hi0 : inT t r0 c0 = true) (h0 : P r0 c0) (hs : ∀ (r c : Int) (k : Nat), dT t r0 c0 e r c ≠ -1 → P r c → k < 8 / e → inT t (r + zrow ((e * k : Nat) : Int)) (c + zcol ((e * k : Nat) : Int)) = true → laT t (r + zrow ((e * k : Nat) : Int)) (c + zcol ((e * k : Nat) : Int)) = laT t r0 c0 → P (r + zrow ((e * k : Nat) : Int)) (c + zcol ((e * k : Nat) : Int))) :
    ∀ r c : Int, dT t r0 c0 e r c ≠ -1 → P r c := by
  have key : ∀ n : Nat, ∀ r c : Int, dT t r0 c0 e r c = (n : Int) → P r c := by
    intro n
    induction n with
    | zero =>
      intro r c h
      have hS : Sb t r0 c0 e 0 r c = true := decide_eq_true (by omega)
      rw [Sb_0 ht hi0] at hS
      obtain ⟨rfl, rfl⟩ := of_decide_eq_true hS
      exact h0
    | succ n ih =>
      intro r c h
      obtain ⟨k, hk, hp⟩ := dT_pred (e := e) ht hi0 (r' := r) (c' := c) (by omega)
      have hin := dT_in (e := e) ht hi0 (r' := r) (c' := c) (by omega)
      have h1 := hs (r - zrow ((e * k : Nat) : Int)) (c - zcol ((e * k : Nat) : Int)) k (by omega) (ih _ _ (by omega)) hk (by rw [Int.sub_add_cancel, Int.sub_add_cancel]; exact hin.1) (by rw [Int.sub_add_cancel, Int.sub_add_cancel]; exact hin.2)
      rw [Int.sub_add_cancel, Int.sub_add_cancel] at h1
      exact h1
  intro r c h
  have hb := dT_bd (e := e) ht hi0 r c
  exact key (dT t r0 c0 e r c).toNat r c (by omega)
theorem rch_trans (ht : tH t ≤ 12 ∧ tW t ≤ 12) (hi0 : inT t r0 c0 = true) {r1 c1 : Int} (h1 : dT t r0 c0 e r1 c1 ≠ -1) : ∀ r c : Int, dT t r1 c1 e r c ≠ -1 → dT t r0 c0 e r c ≠ -1 := by
  have hin := dT_in (e := e) ht hi0 h1
  exact rch_ind (P := fun r c => dT t r0 c0 e r c ≠ -1) ht hin.1 h1 (fun r c k _ hP hk hin' hl => (dT_next (e := e) ht hi0 hP hk hin' (hl.trans hin.2)).1)
theorem rch_sym (he : e = 1 ∨ e = 2) (ht : tH t ≤ 12 ∧ tW t ≤ 12) (hi0 : inT t r0 c0 = true) : ∀ r c : Int, dT t r0 c0 e r c ≠ -1 → dT t r c e r0 c0 ≠ -1 := by
  refine rch_ind (P := fun r c => dT t r c e r0 c0 ≠ -1) ht hi0 (rch_refl ht hi0) (fun r c k hd hP hk hin hl => ?_)
  have hin0 := dT_in (e := e) ht hi0 hd
  obtain ⟨k', hk', e1, e2⟩ := zopp he hk
  have hx1 : r + zrow ((e * k : Nat) : Int) + zrow ((e * k' : Nat) : Int) = r := by omega
  have hx2 : c + zcol ((e * k : Nat) : Int) + zcol ((e * k' : Nat) : Int) = c := by omega
  have hn := dT_next (e := e) ht hin (r' := r + zrow ((e * k : Nat) : Int)) (c' := c + zcol ((e * k : Nat) : Int)) (rch_refl ht hin) hk' (by rw [hx1, hx2]; exact hin0.1) (by rw [hx1, hx2]; exact hin0.2.trans hl.symm)
  rw [hx1, hx2] at hn
  exact rch_trans ht hin hn.1 r0 c0 hP
theorem Rb_same (he : e = 1 ∨ e = 2) (ht : tH t ≤ 12 ∧ tW t ≤ 12) (hi0 : inT t r0 c0 = true) {r c : Int} (h : dT t r0 c0 e r c ≠ -1) : Rb t r c e = Rb t r0 c0 e := by
  have hin := dT_in (e := e) ht hi0 h
  funext r' c'
  unfold Rb
  by_cases h1 : dT t r c e r' c' = -1
  · rw [decide_eq_false (fun h => h h1), decide_eq_false]
    intro h2
    exact rch_trans ht hin.1 (rch_sym he ht hi0 r c h) r' c' h2 h1
  · rw [decide_eq_true h1, decide_eq_true]
    exact rch_trans ht hi0 h r' c' h1
/-- how many tiles a region has -/
noncomputable def nC (t : TS) (e : Nat) (r c : Int) : Int := (((zFr t r c e).2.2.1 : Nat) : Int)
noncomputable def eC (t : TS) (e : Nat) (r c : Int) : Bool := (zFr t r c e).2.2.2
theorem nC_eq (hO : TOk t) (hi0 : inT t r0 c0 = true) : nC t e r0 c0 = zS2 t (fun r c => zbz (Rb t r0 c0 e r c)) := by
  obtain ⟨h1, h2, h3, h4, -⟩ := hO
  have ht : tH t ≤ 12 ∧ tW t ≤ 12 := ⟨h2, h4⟩
  have hq := zFr_q (e := e) ht hi0
  unfold nC
  rw [hq.2.2, zbM_grid (t := t) ⟨by omega, h2, by omega, h4⟩ (fun r c hrc => (hq.2.1 r c hrc).1)]
  refine zS2_congr fun r c _ _ _ _ => ?_
  unfold Rb dT
  by_cases h : (zFr t r0 c0 e).1 r c = -1
  · rw [if_pos h, decide_eq_false (fun h' => h' h)]; rfl
  · rw [if_neg h, decide_eq_true h]; rfl
theorem nC_bd (hO : TOk t) (hi0 : inT t r0 c0 = true) : 1 ≤ nC t e r0 c0 ∧ nC t e r0 c0 ≤ 144 := by
  have ht : tH t ≤ 12 ∧ tW t ≤ 12 := ⟨hO.2.1, hO.2.2.2.1⟩
  have h := (dT_0 (e := e) ht hi0).2.1
  have h2 : (zFr t r0 c0 e).2.2.1 ≤ 144 := by
    unfold zFr
    exact zbI_le (zbY_P (e := e) ht (zb1_I ht hi0) 144).1
  unfold nC
  omega
theorem fb_iff (hO : TOk t) {r c : Int} (hi : inT t r c = true) : fsT t r c e = 100 * r + c ↔ ∀ r' c' : Int, dT t r c e r' c' ≠ -1 → r < r' ∨ (r = r' ∧ c ≤ c') := by
  have ht : tH t ≤ 12 ∧ tW t ≤ 12 := ⟨hO.2.1, hO.2.2.2.1⟩
  obtain ⟨a, b, h1, h2, h3, h4⟩ := fsT_P (e := e) hO hi
  have hb := inT_bd h1
  have hb0 := inT_bd hi
  constructor
  · intro h
    have e1 : a = r ∧ b = c := by omega
    rw [← e1.1, ← e1.2]
    rw [e1.1, e1.2] at h4 ⊢
    exact h4
  · intro h
    have g1 := h a b h2
    have g2 := h4 r c (rch_refl ht hi)
    omega
theorem fs_bd (hO : TOk t) {r c : Int} (hi : inT t r c = true) : 0 ≤ fsT t r c e ∧ fsT t r c e ≤ 1111 := by
  obtain ⟨a, b, h1, h2, h3, h4⟩ := fsT_P (e := e) hO hi
  have hb := inT_bd h1
  have h5 := hO.2.1
  have h6 := hO.2.2.2.1
  omega
theorem kx_in (hO : TOk t) {k : Nat} (hk : (k : Int) < tH t * tW t) : inT t ((k : Int) / tW t) ((k : Int) % tW t) = true ∧ tW t * ((k : Int) / tW t) + (k : Int) % tW t = k := by
  have h := zkx (h := tH t) (w := tW t) (k := (k : Int)) ⟨by omega, hk⟩ hO.2.2.1
  exact ⟨inT_of ⟨h.1, h.2.1, h.2.2.1, h.2.2.2.1⟩, h.2.2.2.2⟩
theorem lex_lt {w r c r' c' : Int} (hc : 0 ≤ c ∧ c < w) (hc' : 0 ≤ c' ∧ c' < w) (h : w * r + c < w * r' + c') : r < r' ∨ (r = r' ∧ c < c') := by
  by_cases h1 : r < r'
  · exact Or.inl h1
  · by_cases h2 : r = r'
    · subst h2
      exact Or.inr ⟨rfl, by omega⟩
    · exfalso
      have h3 : w * (r' + 1) ≤ w * r := Int.mul_le_mul_of_nonneg_left (by omega) (by omega)
      rw [Int.mul_add, Int.mul_one] at h3
      omega
theorem new_fb (he : e = 1 ∨ e = 2) (hO : TOk t) {l : Bool} {k : Nat} (hk : (k : Int) < tH t * tW t) (hl : laT t ((k : Int) / tW t) ((k : Int) % tW t) = l) :
    (¬ ∃ j : Nat, j < k ∧ laT t ((j : Int) / tW t) ((j : Int) % tW t) = l ∧ dT t ((j : Int) / tW t) ((j : Int) % tW t) e ((k : Int) / tW t) ((k : Int) % tW t) ≠ -1) ↔ fsT t ((k : Int) / tW t) ((k : Int) % tW t) e = 100 * ((k : Int) / tW t) + (k : Int) % tW t := by
  have ht : tH t ≤ 12 ∧ tW t ≤ 12 := ⟨hO.2.1, hO.2.2.2.1⟩
  obtain ⟨hi, hkk⟩ := kx_in hO hk
  have hib := inT_bd hi
  rw [fb_iff hO hi]
  constructor
  · intro h r' c' hd
    refine Classical.byContradiction fun hn => h ?_
    have hin := dT_in (e := e) ht hi hd
    have hb := inT_bd hin.1
    have hpos : 0 ≤ tW t * r' := Int.mul_nonneg (by omega) hb.1
    have hlt : tW t * r' + c' < (k : Int) := by
      rw [← hkk]
      rcases Int.lt_trichotomy r' ((k : Int) / tW t) with h1 | h1 | h1
      · have h3 : tW t * (r' + 1) ≤ tW t * ((k : Int) / tW t) := Int.mul_le_mul_of_nonneg_left (by omega) (by omega)
        rw [Int.mul_add, Int.mul_one] at h3
        omega
      · rw [h1]
        omega
      · omega
    have q1 : (tW t * r' + c') / tW t = r' := by
      rw [Int.add_comm, Int.add_mul_ediv_left _ _ (by omega : tW t ≠ 0), Int.ediv_eq_zero_of_lt (by omega) (by omega)]
      omega
    have q2 : (tW t * r' + c') % tW t = c' := by
      rw [Int.add_comm, Int.add_mul_emod_self_left, Int.emod_eq_of_lt (by omega) (by omega)]
    refine ⟨(tW t * r' + c').toNat, by omega, ?_, ?_⟩
    · rw [Int.toNat_of_nonneg (by omega), q1, q2]
      exact hin.2.trans hl
    · rw [Int.toNat_of_nonneg (by omega), q1, q2]
      exact rch_sym he ht hi r' c' hd
  · rintro h ⟨j, hj, hlj, hd⟩
    obtain ⟨hij, hjj⟩ := kx_in hO (k := j) (by omega)
    have hjb := inT_bd hij
    have h2 := h _ _ (rch_sym he ht hij _ _ hd)
    have h3 := lex_lt (w := tW t) (r := (j : Int) / tW t) (c := (j : Int) % tW t) (r' := (k : Int) / tW t) (c' := (k : Int) % tW t) ⟨hjb.2.2.1, hjb.2.2.2⟩ ⟨hib.2.2.1, hib.2.2.2⟩ (by omega)
    omega
/-- what the class's walk over all tiles gathers -/
noncomputable def AN (t : TS) (l : Bool) (e : Nat) (g : Int → Int → Int → Int → Int × Int → Int × Int) (n : Nat) (a : Int × Int) : Int × Int := zrep (fun (k : Nat) (a : Int × Int) => if laT t ((k : Int) / tW t) ((k : Int) % tW t) = l ∧ fsT t ((k : Int) / tW t) ((k : Int) % tW t) e = 100 * ((k : Int) / tW t) + (k : Int) % tW t then g ((k : Int) / tW t) ((k : Int) % tW t) (nC t e ((k : Int) / tW t) ((k : Int) % tW t)) (zbz (eC t e ((k : Int) / tW t) ((k : Int) % tW t))) a else a) n a
theorem XR_n {M : Mem} {l : Bool} {g : Int → Int → Int → Int → Int × Int → Int × Int} {a : Int × Int} (he : e = 1 ∨ e = 2) (hO : TOk t) (hS : zSk M 0) (hx : tsX M 0 = t) : ∀ n : Nat, (n : Int) ≤ tH t * tW t →
    rgP (fgX M) (zrep (fun (k : Nat) q => rgXz l e g ((k : Int) / tW t) ((k : Int) % tW t) q) n (fgX M, a)).1 ∧ zCl t e (vX t (zrep (fun (k : Nat) q => rgXz l e g ((k : Int) / tW t) ((k : Int) % tW t) q) n (fgX M, a)).1) ∧
    (∀ r c : Int, inT t r c = true → (vX t (zrep (fun (k : Nat) q => rgXz l e g ((k : Int) / tW t) ((k : Int) % tW t) q) n (fgX M, a)).1 r c ↔ ∃ j : Nat, j < n ∧ laT t ((j : Int) / tW t) ((j : Int) % tW t) = l ∧ dT t ((j : Int) / tW t) ((j : Int) % tW t) e r c ≠ -1)) ∧
    (zrep (fun (k : Nat) q => rgXz l e g ((k : Int) / tW t) ((k : Int) % tW t) q) n (fgX M, a)).2 = AN t l e g n a
  | 0, _ => by
    refine ⟨fgX_P hS, by rw [← hx]; exact fgX_cl hS, fun r c _ => ⟨fun h => ?_, fun ⟨j, h, _⟩ => absurd h (Nat.not_lt_zero j)⟩, rfl⟩
    rw [← hx] at h
    exact absurd h (fgX_no hS r c)
  | n + 1, hn => by
    have ih := XR_n (g := g) (l := l) (a := a) he hO hS hx n (by omega)
    rw [zrep_succ]
    generalize hq : zrep (fun (k : Nat) q => rgXz l e g ((k : Int) / tW t) ((k : Int) % tW t) q) n (fgX M, a) = q at ih ⊢
    obtain ⟨h1, h2, h3, h4⟩ := ih
    have hA : AN t l e g (n + 1) a = if laT t ((n : Int) / tW t) ((n : Int) % tW t) = l ∧ fsT t ((n : Int) / tW t) ((n : Int) % tW t) e = 100 * ((n : Int) / tW t) + (n : Int) % tW t then g ((n : Int) / tW t) ((n : Int) % tW t) (nC t e ((n : Int) / tW t) ((n : Int) % tW t)) (zbz (eC t e ((n : Int) / tW t) ((n : Int) % tW t))) (AN t l e g n a) else AN t l e g n a := by
      unfold AN
      rw [zrep_succ]
    rw [hA]
    obtain ⟨hi, hkk⟩ := kx_in hO (k := n) (by omega)
    have ex : tsX q.1 0 = t := h1.2.1.trans (fgX_ts.trans hx)
    unfold rgXz
    rw [ex]
    by_cases hl : laT t ((n : Int) / tW t) ((n : Int) % tW t) = l
    · have hnf := new_fb he hO (k := n) (by omega) hl
      have hv := h3 _ _ hi
      by_cases h35 : q.1 35 ((n : Int) / tW t * 12 + (n : Int) % tW t) = -1
      · have hnv : ¬ vX t q.1 ((n : Int) / tW t) ((n : Int) % tW t) := fun h => h.2 h35
        have hfs := hnf.mp (fun h => hnv (hv.mpr h))
        rw [if_pos ⟨hl, h35⟩, if_pos ⟨hl, hfs⟩]
        have gX := X_reg (M := q.1) (r := (n : Int) / tW t) (c := (n : Int) % tW t) he h1.1 h1.2.2.2 (by rw [ex]; exact hi) h35 (by rw [ex]; exact h2)
        rw [ex, hl] at gX
        obtain ⟨g1, g2, g3, g4⟩ := gX
        have hlx : laT (tsX q.1 0) ((n : Int) / tW t) ((n : Int) % tW t) = l := by rw [ex]; exact hl
        have hA9 := (ovX_rg (e := e) h1 hlx).1
        dsimp only
        refine ⟨hA9, g4, fun r c hin => ?_, ?_⟩
        · rw [(g3 r c hin).2, h3 r c hin]
          constructor
          · rintro (⟨j, hj, hj2⟩ | h)
            · exact ⟨j, by omega, hj2⟩
            · exact ⟨n, by omega, hl, h⟩
          · rintro ⟨j, hj, hj2, hj3⟩
            by_cases hjn : j = n
            · subst hjn
              exact Or.inr hj3
            · exact Or.inl ⟨j, by omega, hj2, hj3⟩
        · show g _ _ _ _ q.2 = _
          rw [g1, g2, h4]
          rfl
      · have hvv : vX t q.1 ((n : Int) / tW t) ((n : Int) % tW t) := ⟨hi, h35⟩
        have hex := hv.mp hvv
        rw [if_neg (fun h => h35 h.2), if_neg (fun h => hnf.mpr h.2 hex)]
        refine ⟨h1, h2, fun r c hin => ?_, h4⟩
        rw [h3 r c hin]
        constructor
        · rintro ⟨j, hj, hj2⟩
          exact ⟨j, by omega, hj2⟩
        · rintro ⟨j, hj, hj2, hj3⟩
          by_cases hjn : j = n
          · subst hjn
            obtain ⟨i, hi1, hi2, hi3⟩ := hex
            obtain ⟨hii, -⟩ := kx_in hO (k := i) (by omega)
            exact ⟨i, hi1, hi2, rch_trans ⟨hO.2.1, hO.2.2.2.1⟩ hii hi3 r c hj3⟩
          · exact ⟨j, by omega, hj2, hj3⟩
    · rw [if_neg (fun h => hl h.1), if_neg (fun h => hl h.1)]
      refine ⟨h1, h2, fun r c hin => ?_, h4⟩
      rw [h3 r c hin]
      constructor
      · rintro ⟨j, hj, hj2⟩
        exact ⟨j, by omega, hj2⟩
      · rintro ⟨j, hj, hj2, hj3⟩
        by_cases hjn : j = n
        · subst hjn
          exact absurd hj2 hl
        · exact ⟨j, by omega, hj2, hj3⟩
theorem XR_all {M : Mem} {l : Bool} {g : Int → Int → Int → Int → Int × Int → Int × Int} {a : Int × Int} (he : e = 1 ∨ e = 2) (hO : TOk t) (hS : zSk M 0) (hx : tsX M 0 = t) :
    (zrep (rgO l e g (M 0 1).toNat) (M 0 0).toNat (fgX M, a)).2 = AN t l e g (tH t * tW t).toNat a ∧ ∀ k : Nat, k ≠ 33 → k ≠ 34 → k ≠ 35 → (zrep (rgO l e g (M 0 1).toNat) (M 0 0).toNat (fgX M, a)).1 k = M k := by
  have e1 : zrep (rgO l e g (M 0 1).toNat) (M 0 0).toNat (fgX M, a) = z2 t (rgXz l e g) (fgX M, a) := by rw [← hx]; rfl
  have hb := zhw hO.1 hO.2.1 hO.2.2.1 hO.2.2.2.1
  have hn := XR_n (g := g) (l := l) (a := a) he hO hS hx (tH t * tW t).toNat (by omega)
  rw [e1, ← z2_flat t (rgXz l e g) (fgX M, a) (by have := hO.1; omega) hO.2.2.1]
  exact ⟨hn.2.2.2, fun k k1 k2 k3 => (hn.1.2.2.1 k k1 k2 k3).trans (fgX_off k3)⟩
-- the law's sums
noncomputable def fbB (t : TS) (r c : Int) : Bool := decide (fsT t r c (sprE (laT t r c)) = 100 * r + c)
theorem sprE_12 (b : Bool) : sprE b = 1 ∨ sprE b = 2 := by cases b; exact Or.inr rfl; exact Or.inl rfl
theorem isl_n : ∀ n : Nat, (AN t true 1 gIs n (0, 0)).1 = zS1 (fun k : Nat => zbz (laT t ((k : Int) / tW t) ((k : Int) % tW t) && fbB t ((k : Int) / tW t) ((k : Int) % tW t))) n
  | 0 => rfl
  | n + 1 => by
    rw [zS1_s, ← isl_n n]
    show (if laT t ((n : Int) / tW t) ((n : Int) % tW t) = true ∧ fsT t ((n : Int) / tW t) ((n : Int) % tW t) 1 = 100 * ((n : Int) / tW t) + (n : Int) % tW t then gIs _ _ _ _ (AN t true 1 gIs n (0, 0)) else AN t true 1 gIs n (0, 0)).1 = _
    unfold fbB
    by_cases hl : laT t ((n : Int) / tW t) ((n : Int) % tW t) = true
    · rw [hl]
      by_cases hf : fsT t ((n : Int) / tW t) ((n : Int) % tW t) 1 = 100 * ((n : Int) / tW t) + (n : Int) % tW t
      · rw [if_pos ⟨rfl, hf⟩]
        have : decide (fsT t ((n : Int) / tW t) ((n : Int) % tW t) (sprE true) = 100 * ((n : Int) / tW t) + (n : Int) % tW t) = true := decide_eq_true hf
        rw [this]
        rfl
      · rw [if_neg (fun h => hf h.2)]
        have : decide (fsT t ((n : Int) / tW t) ((n : Int) % tW t) (sprE true) = 100 * ((n : Int) / tW t) + (n : Int) % tW t) = false := decide_eq_false hf
        rw [this]
        exact (Int.add_zero _).symm
    · rw [if_neg (fun h => hl h.1)]
      cases hb : laT t ((n : Int) / tW t) ((n : Int) % tW t)
      · exact (Int.add_zero _).symm
      · exact absurd hb hl
theorem lak_n : ∀ n : Nat, (AN t false 2 gLk n (0, 0)).1 = zS1 (fun k : Nat => zbz (!laT t ((k : Int) / tW t) ((k : Int) % tW t) && (fbB t ((k : Int) / tW t) ((k : Int) % tW t) && !eC t (sprE (laT t ((k : Int) / tW t) ((k : Int) % tW t))) ((k : Int) / tW t) ((k : Int) % tW t)))) n
  | 0 => rfl
  | n + 1 => by
    rw [zS1_s, ← lak_n n]
    show (if laT t ((n : Int) / tW t) ((n : Int) % tW t) = false ∧ fsT t ((n : Int) / tW t) ((n : Int) % tW t) 2 = 100 * ((n : Int) / tW t) + (n : Int) % tW t then gLk _ _ _ (zbz (eC t 2 ((n : Int) / tW t) ((n : Int) % tW t))) (AN t false 2 gLk n (0, 0)) else AN t false 2 gLk n (0, 0)).1 = _
    unfold fbB
    cases hl : laT t ((n : Int) / tW t) ((n : Int) % tW t)
    · by_cases hf : fsT t ((n : Int) / tW t) ((n : Int) % tW t) 2 = 100 * ((n : Int) / tW t) + (n : Int) % tW t
      · rw [if_pos ⟨rfl, hf⟩]
        have : decide (fsT t ((n : Int) / tW t) ((n : Int) % tW t) (sprE false) = 100 * ((n : Int) / tW t) + (n : Int) % tW t) = true := decide_eq_true hf
        rw [this]
        show (AN t false 2 gLk n (0, 0)).1 + (if zbz (eC t 2 ((n : Int) / tW t) ((n : Int) % tW t)) = 1 then 0 else 1) = (AN t false 2 gLk n (0, 0)).1 + zbz (true && (true && !eC t 2 ((n : Int) / tW t) ((n : Int) % tW t)))
        cases eC t 2 ((n : Int) / tW t) ((n : Int) % tW t) <;> rfl
      · rw [if_neg (fun h => hf h.2)]
        have : decide (fsT t ((n : Int) / tW t) ((n : Int) % tW t) (sprE false) = 100 * ((n : Int) / tW t) + (n : Int) % tW t) = false := decide_eq_false hf
        rw [this]
        exact (Int.add_zero _).symm
    · rw [if_neg (fun h => by cases h.1)]
      exact (Int.add_zero _).symm
/-- the law's most and largest -/
noncomputable def lgS (t : TS) (k : Nat) (a : Int × Int) : Int × Int := (if laT t ((k : Int) / tW t) ((k : Int) % tW t) = true ∧ a.1 < nC t (sprE (laT t ((k : Int) / tW t) ((k : Int) % tW t))) ((k : Int) / tW t) ((k : Int) % tW t) then nC t (sprE (laT t ((k : Int) / tW t) ((k : Int) % tW t))) ((k : Int) / tW t) ((k : Int) % tW t) else a.1, if laT t ((k : Int) / tW t) ((k : Int) % tW t) = true ∧ fbB t ((k : Int) / tW t) ((k : Int) % tW t) = true ∧ a.1 < nC t (sprE (laT t ((k : Int) / tW t) ((k : Int) % tW t))) ((k : Int) / tW t) ((k : Int) % tW t) then 100 * ((k : Int) / tW t) + (k : Int) % tW t else a.2)
theorem lg_n (hO : TOk t) : ∀ n : Nat, (n : Int) ≤ tH t * tW t → zrep (lgS t) n (0, -6) = AN t true 1 gLg n (0, -6) ∧ ∀ j : Nat, j < n → laT t ((j : Int) / tW t) ((j : Int) % tW t) = true → nC t 1 ((j : Int) / tW t) ((j : Int) % tW t) ≤ (zrep (lgS t) n (0, -6)).1
  | 0, _ => ⟨rfl, fun j hj => absurd hj (Nat.not_lt_zero j)⟩
  | n + 1, hn => by
    obtain ⟨ih1, ih2⟩ := lg_n hO n (by omega)
    have ht : tH t ≤ 12 ∧ tW t ≤ 12 := ⟨hO.2.1, hO.2.2.2.1⟩
    have hA : AN t true 1 gLg (n + 1) (0, -6) = if laT t ((n : Int) / tW t) ((n : Int) % tW t) = true ∧ fsT t ((n : Int) / tW t) ((n : Int) % tW t) 1 = 100 * ((n : Int) / tW t) + (n : Int) % tW t then gLg ((n : Int) / tW t) ((n : Int) % tW t) (nC t 1 ((n : Int) / tW t) ((n : Int) % tW t)) (zbz (eC t 1 ((n : Int) / tW t) ((n : Int) % tW t))) (AN t true 1 gLg n (0, -6)) else AN t true 1 gLg n (0, -6) := by
      unfold AN
      rw [zrep_succ]
    rw [hA, zrep_succ, ← ih1]
    generalize hq : zrep (lgS t) n (0, -6) = q at ih2 ⊢
    unfold lgS fbB
    by_cases hl : laT t ((n : Int) / tW t) ((n : Int) % tW t) = true
    · rw [hl]
      show ((if true = true ∧ q.1 < nC t 1 ((n : Int) / tW t) ((n : Int) % tW t) then nC t 1 ((n : Int) / tW t) ((n : Int) % tW t) else q.1, if true = true ∧ decide (fsT t ((n : Int) / tW t) ((n : Int) % tW t) 1 = 100 * ((n : Int) / tW t) + (n : Int) % tW t) = true ∧ q.1 < nC t 1 ((n : Int) / tW t) ((n : Int) % tW t) then 100 * ((n : Int) / tW t) + (n : Int) % tW t else q.2) : Int × Int) = (if true = true ∧ fsT t ((n : Int) / tW t) ((n : Int) % tW t) 1 = 100 * ((n : Int) / tW t) + (n : Int) % tW t then (if q.1 < nC t 1 ((n : Int) / tW t) ((n : Int) % tW t) then (nC t 1 ((n : Int) / tW t) ((n : Int) % tW t), 100 * ((n : Int) / tW t) + (n : Int) % tW t) else q) else q) ∧ ∀ j : Nat, j < n + 1 → laT t ((j : Int) / tW t) ((j : Int) % tW t) = true → nC t 1 ((j : Int) / tW t) ((j : Int) % tW t) ≤ (if true = true ∧ q.1 < nC t 1 ((n : Int) / tW t) ((n : Int) % tW t) then nC t 1 ((n : Int) / tW t) ((n : Int) % tW t) else q.1)
      constructor
      · by_cases hf : fsT t ((n : Int) / tW t) ((n : Int) % tW t) 1 = 100 * ((n : Int) / tW t) + (n : Int) % tW t
        · rw [if_pos (c := true = true ∧ fsT t ((n : Int) / tW t) ((n : Int) % tW t) 1 = 100 * ((n : Int) / tW t) + (n : Int) % tW t) ⟨rfl, hf⟩]
          by_cases hm : q.1 < nC t 1 ((n : Int) / tW t) ((n : Int) % tW t)
          · rw [if_pos ⟨rfl, hm⟩, if_pos ⟨rfl, decide_eq_true hf, hm⟩, if_pos hm]
          · rw [if_neg (fun h => hm h.2), if_neg (fun h => hm h.2.2), if_neg hm]
        · rw [if_neg (c := true = true ∧ fsT t ((n : Int) / tW t) ((n : Int) % tW t) 1 = 100 * ((n : Int) / tW t) + (n : Int) % tW t) (fun h => hf h.2)]
          have hnf := new_fb (e := 1) (Or.inl rfl) hO (k := n) (by omega) hl
          have hex : ∃ j : Nat, j < n ∧ laT t ((j : Int) / tW t) ((j : Int) % tW t) = true ∧ dT t ((j : Int) / tW t) ((j : Int) % tW t) 1 ((n : Int) / tW t) ((n : Int) % tW t) ≠ -1 := Classical.byContradiction fun h => hf (hnf.mp h)
          obtain ⟨j, hj, hlj, hd⟩ := hex
          obtain ⟨hij, -⟩ := kx_in hO (k := j) (by omega)
          obtain ⟨hin, -⟩ := kx_in hO (k := n) (by omega)
          have hsame : nC t 1 ((n : Int) / tW t) ((n : Int) % tW t) = nC t 1 ((j : Int) / tW t) ((j : Int) % tW t) := by
            rw [nC_eq hO hin, nC_eq hO hij, Rb_same (Or.inl rfl) ht hij hd]
          have hm : ¬ q.1 < nC t 1 ((n : Int) / tW t) ((n : Int) % tW t) := by
            have := ih2 j hj hlj
            omega
          rw [if_neg (fun h => hm h.2), if_neg (fun h => hm h.2.2)]
      · intro j hj hlj
        by_cases hjn : j = n
        · subst hjn
          by_cases hm : q.1 < nC t 1 ((j : Int) / tW t) ((j : Int) % tW t)
          · rw [if_pos ⟨rfl, hm⟩]
            exact Int.le_refl _
          · rw [if_neg (fun h => hm h.2)]
            omega
        · have := ih2 j (by omega) hlj
          by_cases hm : q.1 < nC t 1 ((n : Int) / tW t) ((n : Int) % tW t)
          · rw [if_pos ⟨rfl, hm⟩]
            omega
          · rw [if_neg (fun h => hm h.2)]
            exact this
    · rw [if_neg (c := laT t ((n : Int) / tW t) ((n : Int) % tW t) = true ∧ fsT t ((n : Int) / tW t) ((n : Int) % tW t) 1 = 100 * ((n : Int) / tW t) + (n : Int) % tW t) (fun h => hl h.1), if_neg (fun h => hl h.1), if_neg (fun h => hl h.1)]
      refine ⟨rfl, fun j hj hlj => ?_⟩
      by_cases hjn : j = n
      · subst hjn
        exact absurd hlj hl
      · exact ih2 j (by omega) hlj
end P4R
