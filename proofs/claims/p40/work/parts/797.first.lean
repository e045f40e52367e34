-- the first memory: what stands between calls holds of it
def zMI : Mem := zMX
theorem zMI_st : ∀ k : Nat, k < 9 → zMI k = zini8 ∧ zMI (k + 9) = zini0 ∧ zMI (k + 18) = ziniP := fun k hk => match k, hk with
  | 0, _ => ⟨rfl, rfl, rfl⟩
  | 1, _ => ⟨rfl, rfl, rfl⟩
  | 2, _ => ⟨rfl, rfl, rfl⟩
  | 3, _ => ⟨rfl, rfl, rfl⟩
  | 4, _ => ⟨rfl, rfl, rfl⟩
  | 5, _ => ⟨rfl, rfl, rfl⟩
  | 6, _ => ⟨rfl, rfl, rfl⟩
  | 7, _ => ⟨rfl, rfl, rfl⟩
  | 8, _ => ⟨rfl, rfl, rfl⟩
  | _ + 9, h => absurd h (by omega)
theorem ziniP_at {i : Int} (h0 : 0 ≤ i) (h1 : i < 144) : ziniP i = -1 := by
  show (if (18 : Nat) = 18 ∧ 0 ≤ i ∧ i < 144 then (-1 : Int) else zM0 18 i) = -1
  rw [if_pos ⟨rfl, h0, h1⟩]
theorem zMI_sk (k : Nat) (hk : k < 9) : zSk zMI k := by
  obtain ⟨h1, h2, h3⟩ := zMI_st k hk
  unfold zSk
  rw [h1, h2, h3]
  exact ⟨by decide, by decide, by decide, by decide, Or.inl (by decide), fun i _ _ => Or.inl rfl, fun i h0 h1 => by rw [ziniP_at h0 h1]; omega⟩
theorem zMI_XI : XI zMI := by
  refine ⟨⟨fun s h0 h1 => ?_, fun m h0 h1 => ?_⟩, zMI_sk, ?_⟩
  · show zTm 29 30 zM0 256 29 s = mkZ s
    unfold zTm
    rw [zcn_e.2, if_pos ⟨rfl, h0, h1⟩]
  · show zTm 29 30 zM0 256 30 m = shZ m
    unfold zTm
    rw [if_neg (by omega), if_pos ⟨rfl, h0, by omega⟩]
  · refine ⟨(by decide : (0 : Int) ≤ 0), (by decide : (0 : Int) ≤ 5), fun i h0 h1 => ?_, fun i j h0 h1 h2 h3 h => ?_⟩
    · show 3 ≤ i + 3 ∧ i + 3 ≤ 7
      omega
    · have h : i + 3 = j + 3 := h
      omega
def zadL (b q1 : Nat) (a1 : Nat → Nat) : Nat → Nat := fun k => cond (Nat.blt k 38) (zb 27 q1 a1 k) b
set_option maxRecDepth 100000 in
set_option maxHeartbeats 8000000 in
theorem zWo_all (b q1 : Nat) (a1 : Nat → Nat) (dA : Nat → ClassId) : (zW5 dA q1 a1).set 32 (a1 32, .inl (dA 3, 5, .inr (.inr (.inr (.inr (fun j => some (zadL b q1 a1 (zMX 32 (j : Nat)).toNat))))))) = zWo (List.range 38) (zadL b q1 a1) dA zMI := by
  rw [show List.range 38 = [0, 1, 2, 3, 4, 5, 6, 7, 8, 9, 10, 11, 12, 13, 14, 15, 16, 17, 18, 19, 20, 21, 22, 23, 24, 25, 26, 27, 28, 29, 30, 31, 32, 33, 34, 35, 36, 37] from rfl]
  unfold zW5 zWo
  simp only [List.map_cons, List.map_nil, List.cons_append, List.nil_append, List.set_cons_succ, List.set_cons_zero]
  rfl
