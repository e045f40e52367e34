/-! ===== what each call answers and leaves, on both sides ===== -/
def xR_begin (M : Mem) (r : Int) (c : Int) : Int := (if 1 ≤ r ∧ r ≤ 12 ∧ 1 ≤ c ∧ c ≤ 12 then r * c else -2)
def xM_begin (M : Mem) (r : Int) (c : Int) : Mem := (if 1 ≤ r ∧ r ≤ 12 ∧ 1 ≤ c ∧ c ≤ 12 then watM (recM M) 0 r c 144 else M)
def xR_setOutside (M : Mem) (b : Bool) : Int := (if tO (tsX M 0) = b then 0 else roA (tsX M 0))
def xM_setOutside (M : Mem) (b : Bool) : Mem := (zup (recM M) 0 2 (zbz b))
def xR_set (M : Mem) (r : Int) (c : Int) (b : Bool) : Int := (if inT (tsX M 0) r c = true then (if laT (tsX M 0) r c = b then 0 else rbT (tsX M 0) r c) else -1)
def xM_set (M : Mem) (r : Int) (c : Int) (b : Bool) : Mem := (if inT (tsX M 0) r c = true then putK (recM M) 0 r c b else M)
def xR_fill (M : Mem) (r : Int) (c : Int) (b : Bool) : Int := (if inT (tsX M 0) r c = true then (if laT (tsX M 0) r c = b then 0 else (zrep (fiO (fgR (recM M) r c 2) b (M 0 1).toNat) (M 0 0).toNat (fgR (recM M) r c 2)) 33 2) else -1)
def xM_fill (M : Mem) (r : Int) (c : Int) (b : Bool) : Mem := (if inT (tsX M 0) r c = true then (if laT (tsX M 0) r c = b then (recM M) else (zrep (fiO (fgR (recM M) r c 2) b (M 0 1).toNat) (M 0 0).toNat (fgR (recM M) r c 2))) else M)
def xR_brush (M : Mem) (r : Int) (c : Int) (k : Int) (b : Bool) : Int := (if inT (tsX M 0) r c = true then (if 0 ≤ k ∧ k ≤ 5 then (zrep (brO r c k b) (2 * k + 1).toNat (recM M, 0)).2 else -2) else -1)
def xM_brush (M : Mem) (r : Int) (c : Int) (k : Int) (b : Bool) : Mem := (if inT (tsX M 0) r c = true ∧ 0 ≤ k ∧ k ≤ 5 then (zrep (brO r c k b) (2 * k + 1).toNat (recM M, 0)).1 else M)
def xR_smooth (M : Mem) (k : Int) : Int := (if 1 ≤ k ∧ k ≤ 9 then (zrep (smO (tsX (copM (recM M) 1 0 144) 1) k) (tH (tsX (copM (recM M) 1 0 144) 1)).toNat ((copM (recM M) 1 0 144), 0)).2 else -2)
def xM_smooth (M : Mem) (k : Int) : Mem := (if 1 ≤ k ∧ k ≤ 9 then (zrep (smO (tsX (copM (recM M) 1 0 144) 1) k) (tH (tsX (copM (recM M) 1 0 144) 1)).toNat ((copM (recM M) 1 0 144), 0)).1 else M)
def xR_turn (M : Mem) (k : Int) : Int := (if 1 ≤ k ∧ k ≤ 3 then zrep trS k.toNat (recM M) 0 0 else -2)
def xM_turn (M : Mem) (k : Int) : Mem := (if 1 ≤ k ∧ k ≤ 3 then zrep trS k.toNat (recM M) else M)
def xR_rows (M : Mem) : Int := (tH (tsX M 0))
def xM_rows (M : Mem)  : Mem := M
def xR_columns (M : Mem) : Int := (tW (tsX M 0))
def xM_columns (M : Mem)  : Mem := M
def xR_tile (M : Mem) (r : Int) (c : Int) (p : Int) : Int := (tlA (tsX M 0) r c p)
def xM_tile (M : Mem) (r : Int) (c : Int) (p : Int) : Mem := M
def xR_pin (M : Mem) (r : Int) (c : Int) (s : Int) : Int := (if inT (tsX M 0) r c = true ∧ 0 ≤ s ∧ s < 47 then (if laT (tsX M 0) r c then faT (tsX (putP (recM M) 0 r c s) 0) r c else -3) else -1)
def xM_pin (M : Mem) (r : Int) (c : Int) (s : Int) : Mem := (if (inT (tsX M 0) r c = true ∧ 0 ≤ s ∧ s < 47) ∧ laT (tsX M 0) r c = true then (putP (recM M) 0 r c s) else M)
def xR_unpin (M : Mem) (r : Int) (c : Int) : Int := (if inT (tsX M 0) r c = true then (if piT (tsX M 0) r c ≠ -1 then piT (tsX M 0) r c else -3) else -1)
def xM_unpin (M : Mem) (r : Int) (c : Int) : Mem := (if inT (tsX M 0) r c = true ∧ piT (tsX M 0) r c ≠ -1 then (putP (recM M) 0 r c (-1)) else M)
def xR_faults (M : Mem) : Int := (ftA (tsX M 0))
def xM_faults (M : Mem)  : Mem := M
def xR_firstFault (M : Mem) : Int := (ffA (tsX M 0))
def xM_firstFault (M : Mem)  : Mem := M
def xR_maskOf (M : Mem) (s : Int) : Int := (moA s)
def xM_maskOf (M : Mem) (s : Int) : Mem := M
def xR_land (M : Mem) : Int := (lnT (tsX M 0))
def xM_land (M : Mem)  : Mem := M
def xR_coast (M : Mem) : Int := (coA (tsX M 0))
def xM_coast (M : Mem)  : Mem := M
def xR_islands (M : Mem) : Int := ((zrep (rgO true 1 gIs (M 0 1).toNat) (M 0 0).toNat (fgX M, ((0 : Int), (0 : Int)))).2.1)
def xM_islands (M : Mem)  : Mem := (zrep (rgO true 1 gIs (M 0 1).toNat) (M 0 0).toNat (fgX M, ((0 : Int), (0 : Int)))).1
def xR_lakes (M : Mem) : Int := ((zrep (rgO false 2 gLk (M 0 1).toNat) (M 0 0).toNat (fgX M, ((0 : Int), (0 : Int)))).2.1)
def xM_lakes (M : Mem)  : Mem := (zrep (rgO false 2 gLk (M 0 1).toNat) (M 0 0).toNat (fgX M, ((0 : Int), (0 : Int)))).1
def xR_region (M : Mem) (r : Int) (c : Int) (b : Bool) : Int := (if inT (tsX M 0) r c = true then fgR M r c (if b then 1 else 2) 33 2 else -1)
def xM_region (M : Mem) (r : Int) (c : Int) (b : Bool) : Mem := (if inT (tsX M 0) r c = true then fgR M r c (if b then 1 else 2) else M)
def xR_largestIsland (M : Mem) : Int := ((zrep (rgO true 1 gLg (M 0 1).toNat) (M 0 0).toNat (fgX M, ((0 : Int), (-6 : Int)))).2.2)
def xM_largestIsland (M : Mem)  : Mem := (zrep (rgO true 1 gLg (M 0 1).toNat) (M 0 0).toNat (fgX M, ((0 : Int), (-6 : Int)))).1
def xR_way (M : Mem) (r : Int) (c : Int) (p : Int) (q : Int) : Int := (if inT (tsX M 0) r c = true ∧ inT (tsX M 0) p q = true then (if ((fgR M r c 2) 35 (p * 12 + q)) ≠ -1 then ((fgR M r c 2) 35 (p * 12 + q)) else -6) else -1)
def xM_way (M : Mem) (r : Int) (c : Int) (p : Int) (q : Int) : Mem := (if inT (tsX M 0) r c = true ∧ inT (tsX M 0) p q = true then (fgR M r c 2) else M)
def xR_coastIfChanged (M : Mem) (r : Int) (c : Int) : Int := (ccA (tsX M 0) r c)
def xM_coastIfChanged (M : Mem) (r : Int) (c : Int) : Mem := M
def xR_needs (M : Mem) (r : Int) (c : Int) (s : Int) : Int := (neA (tsX M 0) r c s)
def xM_needs (M : Mem) (r : Int) (c : Int) (s : Int) : Mem := M
