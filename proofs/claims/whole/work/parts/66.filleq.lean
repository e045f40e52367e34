/-! ===== fill: both do the same ===== -/
theorem zS1_cut {g : Nat → Int} {m : Nat} : ∀ q : Nat, (∀ i, m ≤ i → g i = 0) → zS1 g (m + q) = zS1 g m
  | 0, _ => rfl
  | q + 1, h => by
    show zS1 g (m + q) + g (m + q) = zS1 g m
    rw [zS1_cut q h, h (m + q) (by omega), Int.add_zero]
theorem zbM_int (s : zBs) : ∀ n : Nat, ((zbM s n : Nat) : Int) = zS1 (fun k => if s.1 ((k / 12 : Nat) : Int) ((k % 12 : Nat) : Int) = -1 then 0 else 1) n
  | 0 => rfl
  | n + 1 => by
    show ((zbM s n + (if s.1 ((n / 12 : Nat) : Int) ((n % 12 : Nat) : Int) = -1 then 0 else 1) : Nat) : Int) = _
    rw [Int.natCast_add, zbM_int s n, zS1_s]
    congr 1
    split <;> rfl
theorem zbM_grid {t : TS} {s : zBs} (ht : 0 ≤ tH t ∧ tH t ≤ 12 ∧ 0 ≤ tW t ∧ tW t ≤ 12) (h : ∀ r c : Int, s.1 r c ≠ -1 → inT t r c = true) : ((zbM s 144 : Nat) : Int) = zS2 t (fun r c => if s.1 r c = -1 then 0 else 1) := by
  rw [zbM_int, zS2_eq]
  have e := zrep_flat (fun (r c : Nat) (y : Int) => y + (if s.1 (r : Int) (c : Int) = -1 then 0 else 1)) 12 (by decide) (0 : Int) 12
  have e1 : zS1 (fun k => if s.1 ((k / 12 : Nat) : Int) ((k % 12 : Nat) : Int) = -1 then 0 else 1) 144 = zrep (fun (r : Nat) x => zrep (fun (c : Nat) y => y + (if s.1 (r : Int) (c : Int) = -1 then 0 else 1)) 12 x) 12 0 := e.symm
  have e2 : zrep (fun (r : Nat) x => zrep (fun (c : Nat) y => y + (if s.1 (r : Int) (c : Int) = -1 then 0 else 1)) 12 x) 12 0 = zS1 (fun r => zS1 (fun c => if s.1 (r : Int) (c : Int) = -1 then 0 else 1) 12) 12 := by
    unfold zS1
    exact zrep_congr 0 (fun i hi x => zS1_from _ 12 x)
  have out : ∀ r c : Int, ¬ (0 ≤ r ∧ r < tH t ∧ 0 ≤ c ∧ c < tW t) → s.1 r c = -1 := fun r c hn => Classical.not_not.mp (fun z => hn (of_decide_eq_true (h r c z)))
  rw [e1, e2]
  have e3 : ∀ r : Nat, zS1 (fun c => if s.1 (r : Int) (c : Int) = -1 then 0 else 1) 12 = zS1 (fun c => if s.1 (r : Int) (c : Int) = -1 then 0 else 1) (tW t).toNat := fun r => by
    have := zS1_cut (g := fun c => if s.1 (r : Int) (c : Int) = -1 then 0 else 1) (m := (tW t).toNat) (12 - (tW t).toNat) (fun i hi => if_pos (out _ _ (by omega)))
    rw [show (tW t).toNat + (12 - (tW t).toNat) = 12 by omega] at this
    exact this
  rw [zS1_congr (fun r _ => e3 r)]
  have := zS1_cut (g := fun r : Nat => zS1 (fun c => if s.1 (r : Int) (c : Int) = -1 then 0 else 1) (tW t).toNat) (m := (tH t).toNat) (12 - (tH t).toNat) (fun i hi => (zS1_congr (h := fun _ => 0) (fun j _ => if_pos (out _ _ (by omega)))).trans (zS1_zero _))
  rw [show (tH t).toNat + (12 - (tH t).toNat) = 12 by omega] at this
  exact this
theorem tsV_same {t : TS} {P : Int → Int → Prop} {v : Int → Int → Bool} (h : ∀ r c : Int, inT t r c = true → P r c → laT t r c = v r c) : tsV t P v = t ∧ tsVc t P v = 0 := by
  have hb : ∀ r c : Int, inT t r c = true → (zcl (P r c) && (laT t r c != v r c)) = false := fun r c hi => by
    cases e : zcl (P r c)
    · rfl
    · rw [h r c hi (zcl_t.mp e)]
      simp
  constructor
  · refine ts_ext rfl rfl rfl (fun r c => ?_) (fun r c => ?_)
    · show (if (inT t r c && zcl (P r c)) = true then v r c else t.2.2.2.1 r c) = t.2.2.2.1 r c
      cases hi : inT t r c
      · rfl
      · cases e : zcl (P r c)
        · rfl
        · show v r c = t.2.2.2.1 r c
          rw [← h r c hi (zcl_t.mp e)]
          unfold laT
          rw [if_pos hi]
    · show (if (inT t r c && (zcl (P r c) && (laT t r c != v r c))) = true then -1 else t.2.2.2.2 r c) = t.2.2.2.2 r c
      cases hi : inT t r c
      · rfl
      · rw [hb r c hi]
        rfl
  · refine (zS2_congr (fun r c a b d e => ?_)).trans (zS2_zero t)
    rw [hb r c (decide_eq_true ⟨a, b, d, e⟩)]
    rfl
def VXm (t : TS) (v : Int → Int → Bool) (M0 : Mem) (M : Mem) (P : Int → Int → Prop) : Prop := tsX M 0 = tsV t P v ∧ zSk M 0 ∧ ∀ k : Nat, k ≠ 9 → k ≠ 18 → M k = M0 k
theorem VXm_s {t : TS} {v : Int → Int → Bool} {M0 M : Mem} {P : Int → Int → Prop} {p q : Int} (h : VXm t v M0 M P) : VXm t v M0 (putK M 0 p q (v p q)) (fun r c => P r c ∨ (r = p ∧ c = q)) := by
  have g := VX_s (s := (M, tsVc t P v)) (p := p) (q := q) (show VX t v M0 (M, tsVc t P v) P from ⟨h.1, rfl, h.2.1, h.2.2⟩)
  exact ⟨g.1, g.2.2.1, g.2.2.2⟩
theorem fill_X {t : TS} {G : Mem} {b : Bool} (ht : tsX G 0 = t) (hS : zSk G 0) : ∃ P : Int → Int → Prop, VXm t (fun _ _ => b) G (zrep (fiO G b (tW t).toNat) (tH t).toNat G) P ∧ ∀ r c : Int, inT t r c = true → (P r c ↔ G 35 (r * 12 + c) ≠ -1) := by
  have inner : ∀ i : Nat, i < (tH t).toNat → ∀ (M : Mem) (P : Int → Int → Prop), VXm t (fun _ _ => b) G M P → VXm t (fun _ _ => b) G (fiO G b (tW t).toNat i M) (fun r c => P r c ∨ ∃ j : Nat, j < (tW t).toNat ∧ (G 35 ((i : Int) * 12 + j) ≠ -1 ∧ r = i ∧ c = j)) := fun i hi M P h =>
    zVrep (N := (tW t).toNat) (f := fiI G b i) (VS := VXm t (fun _ _ => b) G) (A := fun (j : Nat) r c => G 35 ((i : Int) * 12 + j) ≠ -1 ∧ r = i ∧ c = j) (fun j hj M P h => by
      by_cases hd : G 35 ((i : Int) * 12 + j) ≠ -1
      · unfold fiI
        rw [if_pos hd]
        have g := VXm_s (p := i) (q := j) h
        rw [show (fun r c => P r c ∨ (G 35 ((i : Int) * 12 + j) ≠ -1 ∧ r = i ∧ c = j)) = (fun r c => P r c ∨ (r = i ∧ c = j)) from funext fun r => funext fun c => propext ⟨fun z => z.imp id And.right, fun z => z.imp id (fun y => ⟨hd, y⟩)⟩]
        exact g
      · unfold fiI
        rw [if_neg hd]
        rw [show (fun r c => P r c ∨ (G 35 ((i : Int) * 12 + j) ≠ -1 ∧ r = i ∧ c = j)) = P from funext fun r => funext fun c => propext ⟨fun z => z.elim id (fun y => absurd y.1 hd), Or.inl⟩]
        exact h) h _ (Nat.le_refl _)
  have h0 : VXm t (fun _ _ => b) G G (fun _ _ => False) := ⟨by rw [tsV_no.1]; exact ht, hS, fun _ _ _ => rfl⟩
  refine ⟨_, zVrep (N := (tH t).toNat) (f := fiO G b (tW t).toNat) (VS := VXm t (fun _ _ => b) G) inner h0 (tH t).toNat (Nat.le_refl _), fun r c hi => ⟨fun z => ?_, fun z => ?_⟩⟩
  · rcases z with z | ⟨i, i1, j, j1, z, rfl, rfl⟩
    · exact absurd z id
    · exact z
  · have hb := of_decide_eq_true hi
    refine Or.inr ⟨r.toNat, by omega, c.toNat, by omega, ?_, by omega, by omega⟩
    rw [show ((r.toNat : Nat) : Int) = r by omega, show ((c.toNat : Nat) : Int) = c by omega]
    exact z
theorem fill_R {t : TS} {F : Mem} {b : Bool} (ht : tsZ (F 39) = t) (hZ : zRf (F 39)) (hO : TOk (tsZ (F 39))) (hQ : frQ F) : ∃ P : Int → Int → Prop, VR t (fun _ _ => b) F (zrep (ffR F b) (F 38 12).toNat (F, 0)) P ∧ ∀ r c : Int, (P r c ↔ ∃ i : Nat, i < (F 38 12).toNat ∧ (F 46 i / F 39 1, F 46 i % F 39 1) = (r, c)) := by
  have eW : F 39 1 = tW t := congrArg tW ht
  have g := zVrep (N := (F 38 12).toNat) (f := ffR F b) (VS := VR t (fun _ _ => b) F) (A := fun (i : Nat) r c => r = F 46 i / F 39 1 ∧ c = F 46 i % F 39 1) (fun i hi s P h => by
    have hq := hQ.2.2 i (by omega) (by omega)
    have kx := zkx hq (by have := hZ.2.2.1; omega)
    have hin : inT t (F 46 i / F 39 1) (F 46 i % F 39 1) = true := by
      rw [← ht, inT_Z]
      exact decide_eq_true ⟨kx.1, kx.2.1, kx.2.2.1, kx.2.2.2.1⟩
    exact VR_s (p := F 46 i / F 39 1) (q := F 46 i % F 39 1) (a := F 46 i) (b := b) h hin (by rw [← eW]; exact kx.2.2.2.2.symm) rfl) (VR_0 (v := fun _ _ => b) ht hZ hO) (F 38 12).toNat (Nat.le_refl _)
  refine ⟨_, g, fun r c => ⟨fun z => ?_, fun z => ?_⟩⟩
  · rcases z with z | ⟨i, i1, rfl, rfl⟩
    · exact absurd z id
    · exact ⟨i, i1, rfl⟩
  · obtain ⟨i, i1, i2⟩ := z
    exact Or.inr ⟨i, i1, (congrArg Prod.fst i2).symm, (congrArg Prod.snd i2).symm⟩
/-- fill: map and answer -/
theorem fill_eq {M N : Mem} {t : TS} {r c : Int} {b : Bool} (hS : zSk M 0) (hZ : zRf (N 39)) (hO : TOk (tsZ (N 39))) (hx : tsX M 0 = t) (hy : tsZ (N 39) = t) (hi : inT t r c = true) (l : Bool) (hl : l = decide (N 39 (3 + (N 39 1 * r + c)) = 1)) :
    (zRf ((zrep (ffR (frM N (N 39 1 * r + c) l 2 144) b) (frM N (N 39 1 * r + c) l 2 144 38 12).toNat (frM N (N 39 1 * r + c) l 2 144, 0)).1 39)
      ∧ TOk (tsZ ((zrep (ffR (frM N (N 39 1 * r + c) l 2 144) b) (frM N (N 39 1 * r + c) l 2 144 38 12).toNat (frM N (N 39 1 * r + c) l 2 144, 0)).1 39)))
    ∧ (laT t r c = b → tsZ ((zrep (ffR (frM N (N 39 1 * r + c) l 2 144) b) (frM N (N 39 1 * r + c) l 2 144 38 12).toNat (frM N (N 39 1 * r + c) l 2 144, 0)).1 39) = t ∧ (zrep (ffR (frM N (N 39 1 * r + c) l 2 144) b) (frM N (N 39 1 * r + c) l 2 144 38 12).toNat (frM N (N 39 1 * r + c) l 2 144, 0)).2 = 0)
    ∧ (laT t r c ≠ b → zSk (zrep (fiO (fgR M r c 2) b (M 0 1).toNat) (M 0 0).toNat (fgR M r c 2)) 0
      ∧ tsX (zrep (fiO (fgR M r c 2) b (M 0 1).toNat) (M 0 0).toNat (fgR M r c 2)) 0 = tsZ ((zrep (ffR (frM N (N 39 1 * r + c) l 2 144) b) (frM N (N 39 1 * r + c) l 2 144 38 12).toNat (frM N (N 39 1 * r + c) l 2 144, 0)).1 39)
      ∧ (zrep (fiO (fgR M r c 2) b (M 0 1).toNat) (M 0 0).toNat (fgR M r c 2)) 33 2 = (zrep (ffR (frM N (N 39 1 * r + c) l 2 144) b) (frM N (N 39 1 * r + c) l 2 144 38 12).toNat (frM N (N 39 1 * r + c) l 2 144, 0)).2) := by
  have h2 := hi
  rw [← hy, inT_Z] at h2
  have h2 := of_decide_eq_true h2
  have ix := zix (h := N 39 0) (w := N 39 1) ⟨h2.1, h2.2.1⟩ ⟨h2.2.2.1, h2.2.2.2⟩
  obtain ⟨a1, a2, a3, a4, -⟩ := id hZ
  have ht4 : 1 ≤ tH t ∧ tH t ≤ 12 ∧ 1 ≤ tW t ∧ tW t ≤ 12 := by rw [← hy]; exact ⟨a1, a2, a3, a4⟩
  have hF := frM_ok (M := N) (l := l) (e := 2) hZ ⟨ix.1, ix.2.1⟩ hl.symm
  have gR := R_reg (M := N) (l := l) (e := 2) hZ ⟨ix.1, ix.2.1⟩ hl.symm
  have hq := zFr_q (e := 2) ⟨ht4.2.1, ht4.2.2.2⟩ hi
  rw [ix.2.2.1, ix.2.2.2, hy] at gR
  have e39 := srI_39 hF
  obtain ⟨P, hP, hP2⟩ := fill_R (t := t) (b := b) (by rw [e39]; exact hy) (by rw [e39]; exact hZ) (by rw [e39]; exact hO) (frQ_of hF)
  have hP3 : ∀ r' c' : Int, P r' c' ↔ (zFr t r c 2).1 r' c' ≠ -1 := fun r' c' => by
    rw [hP2, hq.1, e39, gR.1, Int.toNat_natCast]
    constructor
    · rintro ⟨i, i1, i2⟩
      exact ⟨i, i1, (gR.2.2.2 i i1).symm.trans i2⟩
    · rintro ⟨i, i1, i2⟩
      exact ⟨i, i1, (gR.2.2.2 i i1).trans i2⟩
  refine ⟨hP.2.2.1, fun hb => ?_, fun hb => ?_⟩
  · have g := tsV_same (t := t) (P := P) (v := fun _ _ => b) (fun r' c' _ hp => ((hq.2.1 r' c' ((hP3 r' c').mp hp)).2).trans hb)
    exact ⟨hP.1.trans g.1, hP.2.1.trans g.2⟩
  · have hG := fgR_P (r := r) (c := c) (e := 2) hS
    have eG : tsX (fgR M r c 2) 0 = t := hG.1.2.1.trans (fgX_ts.trans hx)
    have gX := fgR_reg (M := M) (r := r) (c := c) (e := 2) (Or.inr rfl) hS (by rw [hx]; exact hi)
    rw [hx] at gX
    obtain ⟨P2, hQ, hQ2⟩ := fill_X (t := t) (b := b) eG hG.1.1
    have eW : M 0 1 = tW t := congrArg tW hx
    have eH : M 0 0 = tH t := congrArg tH hx
    rw [eW, eH]
    have hPP : ∀ r' c' : Int, inT t r' c' = true → (P2 r' c' ↔ P r' c') := fun r' c' h => by rw [hQ2 r' c' h, gX.2 r' c' h, hP3]
    refine ⟨hQ.2.1, ?_, ?_⟩
    · rw [hQ.1, hP.1]
      exact (tsV_congr hPP (fun _ _ _ _ => rfl)).1
    · rw [hQ.2.2 33 (by decide) (by decide), gX.1, hP.2.1, hq.2.2, zbM_grid (t := t) (by omega) (fun r' c' h => (hq.2.1 r' c' h).1)]
      unfold tsVc
      refine zS2_congr (fun r' c' x1 x2 x3 x4 => ?_)
      by_cases z : (zFr t r c 2).1 r' c' = -1
      · rw [if_pos z, zcl_f (fun w => (hP3 r' c').mp w z)]
        rfl
      · have hz := (hP3 r' c').mpr z
        rw [if_neg z, zcl_y hz, (hq.2.1 r' c' z).2, bne_iff_ne.mpr hb]
        rfl
