/-! ===== p40: islands, lakes, regions and ways, as the law tells them ===== -/
def p4K (M M' : Mem) : Prop := ∀ k : Nat, k ≠ 33 → k ≠ 34 → k ≠ 35 → M' k = M k
def p4LI (M : Mem) (t : TS) : Prop := XI M ∧ tsX M 0 = t ∧ TOk t ∧ p4M M t
theorem p4K_rfl {M : Mem} : p4K M M := fun _ _ _ _ => rfl
theorem p4K_tr {M M' M'' : Mem} (h1 : p4K M M') (h2 : p4K M' M'') : p4K M M'' := fun k a b c => (h2 k a b c).trans (h1 k a b c)
theorem p4LI_K {M M' : Mem} {t : TS} (h : p4LI M t) (hk : p4K M M') : p4LI M' t := by
  obtain ⟨h1, h2, h3, h4, h5, h6⟩ := h
  refine ⟨XI_congr (fun k a b => hk k (by omega) (by omega) (by omega)) h1, (tsX_congr (hk 0 (by decide) (by decide) (by decide)) (hk 9 (by decide) (by decide) (by decide)) (hk 18 (by decide) (by decide) (by decide))).trans h2, h3, ?_, ?_, ?_⟩
  · rw [hk 38 (by decide) (by decide) (by decide)]; exact h4
  · rw [hk 39 (by decide) (by decide) (by decide)]; exact h5
  · rw [hk 40 (by decide) (by decide) (by decide)]; exact h6
theorem p4_32 {M : Mem} (h : XI M) : ∀ j : Int, 0 ≤ j → j < 5 → 3 ≤ M 32 j ∧ M 32 j ≤ 7 := h.2.2.2.2.1
theorem qi_islands {M M1 : Mem} {t : TS} {zr : Option Int} (h : p4LI M t) (hq : zr = some ((zrep (rgO true 1 gIs (M 0 1).toNat) (M 0 0).toNat (fgX M, ((0 : Int), (0 : Int)))).2.1) ∧ M1 = (zrep (rgO true 1 gIs (M 0 1).toNat) (M 0 0).toNat (fgX M, ((0 : Int), (0 : Int)))).1) :
    zr = some (zS1 (fun k : Nat => zbz (laT t ((k : Int) / tW t) ((k : Int) % tW t) && fbB t ((k : Int) / tW t) ((k : Int) % tW t))) (tH t * tW t).toNat) ∧ p4K M M1 := by
  have hx := XR_all (g := gIs) (l := true) (a := (0, 0)) (e := 1) (Or.inl rfl) h.2.2.1 (h.1.2.1 0 (by decide)) h.2.1
  rw [hq.1, hq.2, hx.1, isl_n]
  exact ⟨rfl, hx.2⟩
theorem qi_lakes {M M1 : Mem} {t : TS} {zr : Option Int} (h : p4LI M t) (hq : zr = some ((zrep (rgO false 2 gLk (M 0 1).toNat) (M 0 0).toNat (fgX M, ((0 : Int), (0 : Int)))).2.1) ∧ M1 = (zrep (rgO false 2 gLk (M 0 1).toNat) (M 0 0).toNat (fgX M, ((0 : Int), (0 : Int)))).1) :
    zr = some (zS1 (fun k : Nat => zbz (!laT t ((k : Int) / tW t) ((k : Int) % tW t) && (fbB t ((k : Int) / tW t) ((k : Int) % tW t) && !eC t (sprE (laT t ((k : Int) / tW t) ((k : Int) % tW t))) ((k : Int) / tW t) ((k : Int) % tW t)))) (tH t * tW t).toNat) ∧ p4K M M1 := by
  have hx := XR_all (g := gLk) (l := false) (a := (0, 0)) (e := 2) (Or.inr rfl) h.2.2.1 (h.1.2.1 0 (by decide)) h.2.1
  rw [hq.1, hq.2, hx.1, lak_n]
  exact ⟨rfl, hx.2⟩
theorem qi_largest {M M1 : Mem} {t : TS} {zr : Option Int} (h : p4LI M t) (hq : zr = some ((zrep (rgO true 1 gLg (M 0 1).toNat) (M 0 0).toNat (fgX M, ((0 : Int), (-6 : Int)))).2.2) ∧ M1 = (zrep (rgO true 1 gLg (M 0 1).toNat) (M 0 0).toNat (fgX M, ((0 : Int), (-6 : Int)))).1) :
    zr = some (zrep (lgS t) (tH t * tW t).toNat (0, -6)).2 ∧ p4K M M1 := by
  have hx := XR_all (g := gLg) (l := true) (a := (0, -6)) (e := 1) (Or.inl rfl) h.2.2.1 (h.1.2.1 0 (by decide)) h.2.1
  have hO := h.2.2.1
  have hb := zhw hO.1 hO.2.1 hO.2.2.1 hO.2.2.2.1
  rw [hq.1, hq.2, hx.1, (lg_n hO (tH t * tW t).toNat (by omega)).1]
  exact ⟨rfl, hx.2⟩
theorem fgR_K {M : Mem} {r c : Int} {e : Nat} (h : XI M) : p4K M (fgR M r c e) := fun k k1 k2 k3 => ((fgR_P (M := M) (r := r) (c := c) (e := e) (h.2.1 0 (by decide))).1.2.2.1 k k1 k2 k3).trans (fgX_off k3)
theorem qi_region {M M1 : Mem} {t : TS} {zr : Option Int} {r c : Int} {b : Bool} (h : p4LI M t) (hi : inT t r c = true) (hq : zr = some (if inT (tsX M 0) r c = true then fgR M r c (if b then 1 else 2) 33 2 else -1) ∧ M1 = (if inT (tsX M 0) r c = true then fgR M r c (if b then 1 else 2) else M)) :
    zr = some (nC t (sprE b) r c) ∧ p4K M M1 := by
  have hR := fgR_reg (M := M) (r := r) (c := c) (e := sprE b) (sprE_12 b) (h.1.2.1 0 (by decide)) (by rw [h.2.1]; exact hi)
  rw [h.2.1, if_pos hi, if_pos hi] at hq
  rw [hq.1, hq.2]
  have h1 : fgR M r c (if b then 1 else 2) 33 2 = nC t (sprE b) r c := by
    rw [h.2.1] at hR
    exact hR.1
  rw [h1]
  exact ⟨rfl, fgR_K h.1⟩
theorem qi_way {M M1 : Mem} {t : TS} {zr : Option Int} {r c p q : Int} (h : p4LI M t) (hi : inT t r c = true) (hi2 : inT t p q = true) (hq : zr = some (if inT (tsX M 0) r c = true ∧ inT (tsX M 0) p q = true then (if ((fgR M r c 2) 35 (p * 12 + q)) ≠ -1 then ((fgR M r c 2) 35 (p * 12 + q)) else -6) else -1) ∧ M1 = (if inT (tsX M 0) r c = true ∧ inT (tsX M 0) p q = true then (fgR M r c 2) else M)) :
    zr = some (if r = p ∧ c = q then 0 else spR t r c 2 p q) ∧ p4K M M1 := by
  have hO := h.2.2.1
  have ht : tH t ≤ 12 ∧ tW t ≤ 12 := ⟨hO.2.1, hO.2.2.2.1⟩
  have hR := fgR_reg (M := M) (r := r) (c := c) (e := 2) (Or.inr rfl) (h.1.2.1 0 (by decide)) (by rw [h.2.1]; exact hi)
  rw [h.2.1] at hR hq
  rw [if_pos (c := inT t r c = true ∧ inT t p q = true) ⟨hi, hi2⟩, if_pos (c := inT t r c = true ∧ inT t p q = true) ⟨hi, hi2⟩, hR.2 p q hi2, show (zFr t r c 2).1 p q = dT t r c 2 p q by unfold dT; rfl] at hq
  rw [hq.1, hq.2]
  refine ⟨congrArg some ?_, fgR_K h.1⟩
  by_cases hs : r = p ∧ c = q
  · rw [if_pos hs, ← hs.1, ← hs.2, (dT_0 (e := 2) ht hi).1]
    rfl
  · rw [if_neg hs]
    unfold spR
    rw [if_neg (c := p = r ∧ q = c) (fun h => hs ⟨h.1.symm, h.2.symm⟩)]
theorem sp_self {t : TS} {r c : Int} {e : Nat} : spR t r c e r c = 10000 * nC t e r c + 2 * fsT t r c e + zbz (eC t e r c) := by
  unfold spR
  rw [if_pos ⟨rfl, rfl⟩]
  rfl
theorem sp_n {t : TS} (hO : TOk t) {r c : Int} {e : Nat} (hi : inT t r c = true) : spR t r c e r c / 10000 = nC t e r c := by
  have h1 := nC_bd (e := e) hO hi
  have h2 := fs_bd (e := e) hO hi
  have h3 := zbz_bd (eC t e r c)
  rw [sp_self]
  omega
theorem sp_b {t : TS} (hO : TOk t) {r c p q : Int} {e : Nat} (hi : inT t r c = true) : -6 ≤ spR t r c e p q ∧ spR t r c e p q < 2000000 := by
  have h1 := nC_bd (e := e) hO hi
  have h2 := fs_bd (e := e) hO hi
  have h3 := zbz_bd (eC t e r c)
  have h4 := dT_bd (e := e) ⟨hO.2.1, hO.2.2.2.1⟩ hi p q
  by_cases hs : p = r ∧ q = c
  · rw [hs.1, hs.2, sp_self]
    omega
  · unfold spR
    rw [if_neg hs]
    split <;> omega
theorem sp_b0 {t : TS} (hO : TOk t) {r c : Int} {e : Nat} (hi : inT t r c = true) : 0 ≤ spR t r c e r c := by
  have h1 := nC_bd (e := e) hO hi
  have h2 := fs_bd (e := e) hO hi
  have h3 := zbz_bd (eC t e r c)
  rw [sp_self]
  omega
theorem p4_bf {b : Bool} (h : zbz b = 0) : b = false := by
  cases b
  · rfl
  · exact absurd h (by decide)
theorem p4_zz1 {b : Bool} {x : List MV} (h : zbz b = 1) : zI 1 :: x = zI (zbz b) :: x := by rw [h]
theorem p4_zz0 {b : Bool} {x : List MV} (h : zbz b ≠ 1) : zI 0 :: x = zI (zbz b) :: x := by
  cases b
  · rfl
  · exact absurd rfl h
theorem zan2_0 {a b : Bool} {x : List MV} (h : a = false) : zI 0 :: x = zI (zbz (a && b)) :: x := by rw [h]; rfl
theorem zan2_1 {a b : Bool} {x : List MV} (h : b = false) : zI 0 :: x = zI (zbz (a && b)) :: x := by rw [h]; cases a <;> rfl
theorem zan2_2 {a b : Bool} {x : List MV} (h : a = true) (h2 : b = true) : zI 1 :: x = zI (zbz (a && b)) :: x := by rw [h, h2]; rfl
theorem zlk0 {a b c : Bool} {x : List MV} (h : a = true) : zI 0 :: x = zI (zbz (!a && (b && !c))) :: x := by rw [h]; rfl
theorem zlk1 {a b c : Bool} {x : List MV} (h : b = false) : zI 0 :: x = zI (zbz (!a && (b && !c))) :: x := by rw [h]; cases a <;> rfl
theorem zlk2 {a b c : Bool} {x : List MV} (h : c = true) : zI 0 :: x = zI (zbz (!a && (b && !c))) :: x := by rw [h]; cases a <;> cases b <;> rfl
theorem zlk3 {a b c : Bool} {x : List MV} (h1 : a = false) (h2 : b = true) (h3 : c = false) : zI 1 :: x = zI (zbz (!a && (b && !c))) :: x := by rw [h1, h2, h3]; rfl
theorem lgS_bd {t : TS} (hO : TOk t) : ∀ n : Nat, (n : Int) ≤ tH t * tW t → (0 ≤ (zrep (lgS t) n (0, -6)).1 ∧ (zrep (lgS t) n (0, -6)).1 ≤ 144) ∧ (-6 ≤ (zrep (lgS t) n (0, -6)).2 ∧ (zrep (lgS t) n (0, -6)).2 ≤ 1111)
  | 0, _ => ⟨⟨(by decide : (0 : Int) ≤ 0), (by decide : (0 : Int) ≤ 144)⟩, (by decide : (-6 : Int) ≤ -6), (by decide : (-6 : Int) ≤ 1111)⟩
  | n + 1, hn => by
    have ih := lgS_bd hO n (by omega)
    obtain ⟨hi, -⟩ := kx_in hO (k := n) (by omega)
    have hib := inT_bd hi
    have h1 := nC_bd (e := sprE (laT t ((n : Int) / tW t) ((n : Int) % tW t))) hO hi
    have h2 := hO.2.1
    have h3 := hO.2.2.2.1
    rw [zrep_succ]
    generalize zrep (lgS t) n (0, -6) = q at ih ⊢
    unfold lgS
    dsimp only
    generalize nC t (sprE (laT t ((n : Int) / tW t) ((n : Int) % tW t))) ((n : Int) / tW t) ((n : Int) % tW t) = N at h1 ⊢
    generalize fbB t ((n : Int) / tW t) ((n : Int) % tW t) = F
    constructor
    · split <;> omega
    · split <;> omega
