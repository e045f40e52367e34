/-! ===== the share that both tell ===== -/
theorem zshP_ok {h w n : Int} (hh : 1 ≤ h ∧ h ≤ 12) (hw : 1 ≤ w ∧ w ≤ 12) (hn : 0 ≤ n ∧ n ≤ h * w) : ∃ a b : Nat, n = a ∧ h * w = b ∧ zshP a b = true := by
  obtain ⟨h', rfl⟩ := Int.eq_ofNat_of_zero_le (by omega : 0 ≤ h)
  obtain ⟨w', rfl⟩ := Int.eq_ofNat_of_zero_le (by omega : 0 ≤ w)
  obtain ⟨n', rfl⟩ := Int.eq_ofNat_of_zero_le hn.1
  have e : ((h' : Int) * (w' : Int)) = ((h' * w' : Nat) : Int) := (Int.natCast_mul h' w').symm
  rw [e] at hn
  refine ⟨n', h' * w', rfl, e, ?_⟩
  have hL : zshL (h' * w') = true := zshQ_all _ (by have := zshQ_in h' (by omega) w' (by omega); rcases this with k | k | k; omega; omega; exact k)
  exact List.all_eq_true.mp hL n' (List.mem_range.mpr (by omega))
/-- the answer: the share is doubled until it is 1 or more -/
def zshK : Nat → Nat → UInt32 → Int
  | 0, _, _ => 0
  | f + 1, N, x => if zfc .g x FP.fconst1 < 0 then zshK f (N + 1) (FP.fmul x FP.fconst2) else zshV N x
theorem zshK_eq : ∀ (f N : Nat) (x : UInt32) (n : Nat), n < f → (∀ i, i < n → zfc .g (zdb i x) FP.fconst1 < 0) → 0 ≤ zfc .g (zdb n x) FP.fconst1 → zshK f N x = zshV (N + n) (zdb n x)
  | 0, _, _, _, h, _, _ => absurd h (Nat.not_lt_zero _)
  | f + 1, N, x, 0, _, _, h3 => by
    show (if zfc .g x FP.fconst1 < 0 then zshK f (N + 1) (FP.fmul x FP.fconst2) else zshV N x) = zshV N x
    rw [if_neg (by have : 0 ≤ zfc .g x FP.fconst1 := h3; omega)]
  | f + 1, N, x, n + 1, h1, h2, h3 => by
    show (if zfc .g x FP.fconst1 < 0 then zshK f (N + 1) (FP.fmul x FP.fconst2) else zshV N x) = _
    have h20 : zfc .g x FP.fconst1 < 0 := h2 0 (by omega)
    rw [if_pos h20, zshK_eq f (N + 1) _ n (by omega) (fun i hi => by have := h2 (i + 1) (by omega); rw [zdb_s] at this; exact this) (by rw [zdb_s] at h3; exact h3), zdb_s, show N + 1 + n = N + (n + 1) by omega]
def zshS (n d : Int) : UInt32 := FP.fdiv (FP.i2f (iI n)) (FP.i2f (iI d))
def zshA (n d : Int) : Int := if n = 0 then 0 else zshK 10 0 (zshS n d)
theorem zsh_H {h w n : Int} (hh : 1 ≤ h ∧ h ≤ 12) (hw : 1 ≤ w ∧ w ≤ 12) (hn : 0 ≤ n ∧ n ≤ h * w) : vf_n32 (zshS n (h * w)) ∧ (n = 0 → zfc .g (zshS n (h * w)) FP.fconst0 ≤ 0 ∧ zfc .l (zshS n (h * w)) FP.fconst0 = 0) ∧ (n ≠ 0 → 0 < zfc .g (zshS n (h * w)) FP.fconst0 ∧ zfc .l (zshS n (h * w)) FP.fconst0 ≠ 0 ∧ ∃ N, zshH (zshS n (h * w)) N ∧ zshA n (h * w) = zshV N (zdb N (zshS n (h * w)))) := by
  obtain ⟨a, b, rfl, e2, hP⟩ := zshP_ok hh hw hn
  rw [e2]
  unfold zshP at hP
  have h1 := (Bool.and_eq_true_iff.mp hP).1
  have h2 := (Bool.and_eq_true_iff.mp hP).2
  refine ⟨zn32_of h1, fun h0 => ?_, fun h0 => ?_⟩
  · have ha : a = 0 := by omega
    rw [if_pos ha] at h2
    exact ⟨of_decide_eq_true (Bool.and_eq_true_iff.mp h2).1, of_decide_eq_true (Bool.and_eq_true_iff.mp h2).2⟩
  · have ha : ¬ a = 0 := by omega
    rw [if_neg ha] at h2
    have h3 := (Bool.and_eq_true_iff.mp h2).1
    obtain ⟨N, k1, k2, k3, k4⟩ := zshW_of 10 0 _ (Bool.and_eq_true_iff.mp h2).2
    have k5 := zshK_eq 10 0 _ N k1 (fun i hi => (k2 i hi).1) k3
    rw [Nat.zero_add] at k4 k5
    unfold zshE at k4
    have k6 := Bool.and_eq_true_iff.mp k4
    have k7 := Bool.and_eq_true_iff.mp k6.2
    have k8 := Bool.and_eq_true_iff.mp k7.2
    refine ⟨of_decide_eq_true (Bool.and_eq_true_iff.mp h3).1, of_decide_eq_true (Bool.and_eq_true_iff.mp h3).2, N, ⟨by omega, k2, k3, zn32_of k6.1, zn32_of k7.1, zn32_of k8.1, of_decide_eq_true k8.2⟩, ?_⟩
    unfold zshA
    rw [if_neg (by omega)]
    exact k5
