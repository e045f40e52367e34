/-! ===== every share that there is ===== -/
def zshL (d : Nat) : Bool := (List.range (d + 1)).all fun n => zshP n d
set_option maxRecDepth 1000000 in
set_option maxHeartbeats 40000000 in
theorem zshL_0 : ([144, 99, 84, 72, 70, 54, 48, 40, 33, 27, 18, 16, 9, 5, 2] : List Nat).all zshL = true := by decide +kernel
set_option maxRecDepth 1000000 in
set_option maxHeartbeats 40000000 in
theorem zshL_1 : ([132, 100, 88, 81, 64, 60, 45, 44, 30, 25, 21, 15, 8, 7] : List Nat).all zshL = true := by decide +kernel
set_option maxRecDepth 1000000 in
set_option maxHeartbeats 40000000 in
theorem zshL_2 : ([121, 108, 96, 77, 63, 56, 50, 36, 35, 28, 20, 14, 10, 4, 3] : List Nat).all zshL = true := by decide +kernel
set_option maxRecDepth 1000000 in
set_option maxHeartbeats 40000000 in
theorem zshL_3 : ([120, 110, 90, 80, 66, 55, 49, 42, 32, 24, 22, 12, 11, 6, 1] : List Nat).all zshL = true := by decide +kernel
def zshQ : List Nat := [144, 99, 84, 72, 70, 54, 48, 40, 33, 27, 18, 16, 9, 5, 2] ++ ([132, 100, 88, 81, 64, 60, 45, 44, 30, 25, 21, 15, 8, 7] ++ ([121, 108, 96, 77, 63, 56, 50, 36, 35, 28, 20, 14, 10, 4, 3] ++ ([120, 110, 90, 80, 66, 55, 49, 42, 32, 24, 22, 12, 11, 6, 1])))
theorem zshQ_all : ∀ d ∈ zshQ, zshL d = true := List.forall_mem_append.mpr ⟨List.all_eq_true.mp zshL_0, List.forall_mem_append.mpr ⟨List.all_eq_true.mp zshL_1, List.forall_mem_append.mpr ⟨List.all_eq_true.mp zshL_2, List.all_eq_true.mp zshL_3⟩⟩⟩
theorem zshQ_in : ∀ h : Nat, h < 13 → ∀ w : Nat, w < 13 → h = 0 ∨ w = 0 ∨ h * w ∈ zshQ := by decide +kernel
