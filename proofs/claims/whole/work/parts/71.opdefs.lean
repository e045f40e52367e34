/-! ===== what each call answers and leaves, on both sides ===== -/
def xR_begin (M : Mem) (r : Int) (c : Int) : Int := (if 1 ≤ r ∧ r ≤ 12 ∧ 1 ≤ c ∧ c ≤ 12 then r * c else -2)
def xM_begin (M : Mem) (r : Int) (c : Int) : Mem := (if 1 ≤ r ∧ r ≤ 12 ∧ 1 ≤ c ∧ c ≤ 12 then watM (recM M) 0 r c 144 else M)
def rR_begin (M : Mem) (r : Int) (c : Int) : Int := (if 1 ≤ r ∧ r ≤ 12 ∧ 1 ≤ c ∧ c ≤ 12 then r * c else -2)
def rM_begin (M : Mem) (r : Int) (c : Int) : Mem := (if 1 ≤ r ∧ r ≤ 12 ∧ 1 ≤ c ∧ c ≤ 12 then bgR M r c else M)
def xR_setOutside (M : Mem) (b : Bool) : Int := (if tO (tsX M 0) = b then 0 else roA (tsX M 0))
def xM_setOutside (M : Mem) (b : Bool) : Mem := (zup (recM M) 0 2 (zbz b))
def rR_setOutside (M : Mem) (b : Bool) : Int := (rsC (zup (lsR (recR M) (recR M 39 0 * recR M 39 1)) 39 2 (zbz b)))
def rM_setOutside (M : Mem) (b : Bool) : Mem := (zup (lsR (recR M) (recR M 39 0 * recR M 39 1)) 39 2 (zbz b))
def xR_set (M : Mem) (r : Int) (c : Int) (b : Bool) : Int := (if inT (tsX M 0) r c = true then (if laT (tsX M 0) r c = b then 0 else rbT (tsX M 0) r c) else -1)
def xM_set (M : Mem) (r : Int) (c : Int) (b : Bool) : Mem := (if inT (tsX M 0) r c = true then putK (recM M) 0 r c b else M)
def rR_set (M : Mem) (r : Int) (c : Int) (b : Bool) : Int := (if inT (tsZ (M 39)) r c = true then rsC (becR (lsR (recR M) (recR M 39 0 * recR M 39 1)) (M 39 1 * r + c) b) else -1)
def rM_set (M : Mem) (r : Int) (c : Int) (b : Bool) : Mem := (if inT (tsZ (M 39)) r c = true then (becR (lsR (recR M) (recR M 39 0 * recR M 39 1)) (M 39 1 * r + c) b) else M)
def xR_fill (M : Mem) (r : Int) (c : Int) (b : Bool) : Int := (if inT (tsX M 0) r c = true then (if laT (tsX M 0) r c = b then 0 else (zrep (fiO (fgR (recM M) r c 2) b (M 0 1).toNat) (M 0 0).toNat (fgR (recM M) r c 2)) 33 2) else -1)
def xM_fill (M : Mem) (r : Int) (c : Int) (b : Bool) : Mem := (if inT (tsX M 0) r c = true then (if laT (tsX M 0) r c = b then (recM M) else (zrep (fiO (fgR (recM M) r c 2) b (M 0 1).toNat) (M 0 0).toNat (fgR (recM M) r c 2))) else M)
def rR_fill (M : Mem) (r : Int) (c : Int) (b : Bool) : Int := (if inT (tsZ (M 39)) r c = true then (zrep (ffR (frM (recR M) (M 39 1 * r + c) (decide (M 39 (3 + (M 39 1 * r + c)) = 1)) 2 144) b) ((frM (recR M) (M 39 1 * r + c) (decide (M 39 (3 + (M 39 1 * r + c)) = 1)) 2 144) 38 12).toNat ((frM (recR M) (M 39 1 * r + c) (decide (M 39 (3 + (M 39 1 * r + c)) = 1)) 2 144), 0)).2 else -1)
def rM_fill (M : Mem) (r : Int) (c : Int) (b : Bool) : Mem := (if inT (tsZ (M 39)) r c = true then (zrep (ffR (frM (recR M) (M 39 1 * r + c) (decide (M 39 (3 + (M 39 1 * r + c)) = 1)) 2 144) b) ((frM (recR M) (M 39 1 * r + c) (decide (M 39 (3 + (M 39 1 * r + c)) = 1)) 2 144) 38 12).toNat ((frM (recR M) (M 39 1 * r + c) (decide (M 39 (3 + (M 39 1 * r + c)) = 1)) 2 144), 0)).1 else M)
def xR_brush (M : Mem) (r : Int) (c : Int) (k : Int) (b : Bool) : Int := (if inT (tsX M 0) r c = true then (if 0 ≤ k ∧ k ≤ 5 then (zrep (brO r c k b) (2 * k + 1).toNat (recM M, 0)).2 else -2) else -1)
def xM_brush (M : Mem) (r : Int) (c : Int) (k : Int) (b : Bool) : Mem := (if inT (tsX M 0) r c = true ∧ 0 ≤ k ∧ k ≤ 5 then (zrep (brO r c k b) (2 * k + 1).toNat (recM M, 0)).1 else M)
def rR_brush (M : Mem) (r : Int) (c : Int) (k : Int) (b : Bool) : Int := (if inT (tsZ (M 39)) r c = true then (if 0 ≤ k ∧ k ≤ 5 then (zrep (brR (M 39 1) r c k b) (M 39 0 * M 39 1).toNat (recR M, 0)).2 else -2) else -1)
def rM_brush (M : Mem) (r : Int) (c : Int) (k : Int) (b : Bool) : Mem := (if inT (tsZ (M 39)) r c = true ∧ 0 ≤ k ∧ k ≤ 5 then (zrep (brR (M 39 1) r c k b) (M 39 0 * M 39 1).toNat (recR M, 0)).1 else M)
def xR_smooth (M : Mem) (k : Int) : Int := (if 1 ≤ k ∧ k ≤ 9 then (zrep (smO (tsX (copM (recM M) 1 0 144) 1) k) (tH (tsX (copM (recM M) 1 0 144) 1)).toNat ((copM (recM M) 1 0 144), 0)).2 else -2)
def xM_smooth (M : Mem) (k : Int) : Mem := (if 1 ≤ k ∧ k ≤ 9 then (zrep (smO (tsX (copM (recM M) 1 0 144) 1) k) (tH (tsX (copM (recM M) 1 0 144) 1)).toNat ((copM (recM M) 1 0 144), 0)).1 else M)
def rR_smooth (M : Mem) (k : Int) : Int := (if 1 ≤ k ∧ k ≤ 9 then (zrep (smR k) (M 39 0 * M 39 1).toNat ((smS (recR M) (M 39 0 * M 39 1)), 0)).2 else -2)
def rM_smooth (M : Mem) (k : Int) : Mem := (if 1 ≤ k ∧ k ≤ 9 then (zrep (smR k) (M 39 0 * M 39 1).toNat ((smS (recR M) (M 39 0 * M 39 1)), 0)).1 else M)
def xR_turn (M : Mem) (k : Int) : Int := (if 1 ≤ k ∧ k ≤ 3 then zrep trS k.toNat (recM M) 0 0 else -2)
def xM_turn (M : Mem) (k : Int) : Mem := (if 1 ≤ k ∧ k ≤ 3 then zrep trS k.toNat (recM M) else M)
def rR_turn (M : Mem) (k : Int) : Int := (if 1 ≤ k ∧ k ≤ 3 then (zrep (fun _ => trM) k.toNat (recR M)) 39 0 else -2)
def rM_turn (M : Mem) (k : Int) : Mem := (if 1 ≤ k ∧ k ≤ 3 then (zrep (fun _ => trM) k.toNat (recR M)) else M)
def xR_rows (M : Mem) : Int := (tH (tsX M 0))
def xM_rows (M : Mem)  : Mem := M
def rR_rows (M : Mem) : Int := (tH (tsZ (M 39)))
def rM_rows (M : Mem)  : Mem := M
def xR_columns (M : Mem) : Int := (tW (tsX M 0))
def xM_columns (M : Mem)  : Mem := M
def rR_columns (M : Mem) : Int := (tW (tsZ (M 39)))
def rM_columns (M : Mem)  : Mem := M
def xR_tile (M : Mem) (r : Int) (c : Int) (p : Int) : Int := (tlA (tsX M 0) r c p)
def xM_tile (M : Mem) (r : Int) (c : Int) (p : Int) : Mem := M
def rR_tile (M : Mem) (r : Int) (c : Int) (p : Int) : Int := (tlA (tsZ (M 39)) r c p)
def rM_tile (M : Mem) (r : Int) (c : Int) (p : Int) : Mem := M
def xR_pin (M : Mem) (r : Int) (c : Int) (s : Int) : Int := (if inT (tsX M 0) r c = true ∧ 0 ≤ s ∧ s < 47 then (if laT (tsX M 0) r c then faT (tsX (putP (recM M) 0 r c s) 0) r c else -3) else -1)
def xM_pin (M : Mem) (r : Int) (c : Int) (s : Int) : Mem := (if (inT (tsX M 0) r c = true ∧ 0 ≤ s ∧ s < 47) ∧ laT (tsX M 0) r c = true then (putP (recM M) 0 r c s) else M)
def rR_pin (M : Mem) (r : Int) (c : Int) (s : Int) : Int := (if inT (tsZ (M 39)) r c = true ∧ 0 ≤ s ∧ s ≤ 46 then (if decide (M 39 (3 + (M 39 1 * r + c)) = 1) = true then faT (tsZ ((pinR (recR M) (M 39 1 * r + c) s) 39)) r c else -3) else -1)
def rM_pin (M : Mem) (r : Int) (c : Int) (s : Int) : Mem := (if (inT (tsZ (M 39)) r c = true ∧ 0 ≤ s ∧ s ≤ 46) ∧ decide (M 39 (3 + (M 39 1 * r + c)) = 1) = true then (pinR (recR M) (M 39 1 * r + c) s) else M)
def xR_unpin (M : Mem) (r : Int) (c : Int) : Int := (if inT (tsX M 0) r c = true then (if piT (tsX M 0) r c ≠ -1 then piT (tsX M 0) r c else -3) else -1)
def xM_unpin (M : Mem) (r : Int) (c : Int) : Mem := (if inT (tsX M 0) r c = true ∧ piT (tsX M 0) r c ≠ -1 then (putP (recM M) 0 r c (-1)) else M)
def rR_unpin (M : Mem) (r : Int) (c : Int) : Int := (if inT (tsZ (M 39)) r c = true then (if M 39 (147 + (M 39 1 * r + c)) = -6 then -3 else M 39 (147 + (M 39 1 * r + c))) else -1)
def rM_unpin (M : Mem) (r : Int) (c : Int) : Mem := (if inT (tsZ (M 39)) r c = true ∧ M 39 (147 + (M 39 1 * r + c)) ≠ -6 then (pinR (recR M) (M 39 1 * r + c) (-6)) else M)
def xR_faults (M : Mem) : Int := (ftA (tsX M 0))
def xM_faults (M : Mem)  : Mem := M
def rR_faults (M : Mem) : Int := (ftA (tsZ (M 39)))
def rM_faults (M : Mem)  : Mem := M
def xR_firstFault (M : Mem) : Int := (ffA (tsX M 0))
def xM_firstFault (M : Mem)  : Mem := M
def rR_firstFault (M : Mem) : Int := (ffA (tsZ (M 39)))
def rM_firstFault (M : Mem)  : Mem := M
def xR_maskOf (M : Mem) (s : Int) : Int := (moA s)
def xM_maskOf (M : Mem) (s : Int) : Mem := M
def rR_maskOf (M : Mem) (s : Int) : Int := (moA s)
def rM_maskOf (M : Mem) (s : Int) : Mem := M
def xR_shapeOf (M : Mem) (m : Int) : Int := (shA m)
def xM_shapeOf (M : Mem) (m : Int) : Mem := M
def rR_shapeOf (M : Mem) (m : Int) : Int := (shA m)
def rM_shapeOf (M : Mem) (m : Int) : Mem := M
def xR_turned (M : Mem) (s : Int) (k : Int) : Int := (tuA s k)
def xM_turned (M : Mem) (s : Int) (k : Int) : Mem := M
def rR_turned (M : Mem) (s : Int) (k : Int) : Int := (tuA s k)
def rM_turned (M : Mem) (s : Int) (k : Int) : Mem := M
def xR_mirrored (M : Mem) (s : Int) : Int := (miA s)
def xM_mirrored (M : Mem) (s : Int) : Mem := M
def rR_mirrored (M : Mem) (s : Int) : Int := (miA s)
def rM_mirrored (M : Mem) (s : Int) : Mem := M
def xR_count (M : Mem) (s : Int) : Int := (cnA (tsX M 0) s)
def xM_count (M : Mem) (s : Int) : Mem := M
def rR_count (M : Mem) (s : Int) : Int := (cnA (tsZ (M 39)) s)
def rM_count (M : Mem) (s : Int) : Mem := M
def xR_shapes (M : Mem) : Int := (spA (tsX M 0))
def xM_shapes (M : Mem)  : Mem := M
def rR_shapes (M : Mem) : Int := (spA (tsZ (M 39)))
def rM_shapes (M : Mem)  : Mem := M
def xR_land (M : Mem) : Int := (lnT (tsX M 0))
def xM_land (M : Mem)  : Mem := M
def rR_land (M : Mem) : Int := (lnT (tsZ (M 39)))
def rM_land (M : Mem)  : Mem := M
def xR_landShare (M : Mem) : Int := (zshA (lnT (tsX M 0)) (M 0 0 * M 0 1))
def xM_landShare (M : Mem)  : Mem := M
def rR_landShare (M : Mem) : Int := (zshA (lnT (tsZ (M 39))) (M 39 0 * M 39 1))
def rM_landShare (M : Mem)  : Mem := M
def xR_coast (M : Mem) : Int := (coA (tsX M 0))
def xM_coast (M : Mem)  : Mem := M
def rR_coast (M : Mem) : Int := (coB (tsZ (M 39)))
def rM_coast (M : Mem)  : Mem := M
def xR_islands (M : Mem) : Int := ((zrep (rgO true 1 gIs (M 0 1).toNat) (M 0 0).toNat (fgX M, ((0 : Int), (0 : Int)))).2.1)
def xM_islands (M : Mem)  : Mem := (zrep (rgO true 1 gIs (M 0 1).toNat) (M 0 0).toNat (fgX M, ((0 : Int), (0 : Int)))).1
def rR_islands (M : Mem) : Int := ((zrep (rgR true 1 gIs) (M 39 0 * M 39 1).toNat (snM M, ((0 : Int), (0 : Int)))).2.1)
def rM_islands (M : Mem)  : Mem := (zrep (rgR true 1 gIs) (M 39 0 * M 39 1).toNat (snM M, ((0 : Int), (0 : Int)))).1
def xR_lakes (M : Mem) : Int := ((zrep (rgO false 2 gLk (M 0 1).toNat) (M 0 0).toNat (fgX M, ((0 : Int), (0 : Int)))).2.1)
def xM_lakes (M : Mem)  : Mem := (zrep (rgO false 2 gLk (M 0 1).toNat) (M 0 0).toNat (fgX M, ((0 : Int), (0 : Int)))).1
def rR_lakes (M : Mem) : Int := ((zrep (rgR false 2 gLk) (M 39 0 * M 39 1).toNat (snM M, ((0 : Int), (0 : Int)))).2.1)
def rM_lakes (M : Mem)  : Mem := (zrep (rgR false 2 gLk) (M 39 0 * M 39 1).toNat (snM M, ((0 : Int), (0 : Int)))).1
def xR_region (M : Mem) (r : Int) (c : Int) (b : Bool) : Int := (if inT (tsX M 0) r c = true then fgR M r c (if b then 1 else 2) 33 2 else -1)
def xM_region (M : Mem) (r : Int) (c : Int) (b : Bool) : Mem := (if inT (tsX M 0) r c = true then fgR M r c (if b then 1 else 2) else M)
def rR_region (M : Mem) (r : Int) (c : Int) (b : Bool) : Int := (if inT (tsZ (M 39)) r c = true then frM M (M 39 1 * r + c) (decide (M 39 (3 + (M 39 1 * r + c)) = 1)) (if b then 1 else 2) 144 38 12 else -1)
def rM_region (M : Mem) (r : Int) (c : Int) (b : Bool) : Mem := (if inT (tsZ (M 39)) r c = true then frM M (M 39 1 * r + c) (decide (M 39 (3 + (M 39 1 * r + c)) = 1)) (if b then 1 else 2) 144 else M)
def xR_largestIsland (M : Mem) : Int := ((zrep (rgO true 1 gLg (M 0 1).toNat) (M 0 0).toNat (fgX M, ((0 : Int), (-6 : Int)))).2.2)
def xM_largestIsland (M : Mem)  : Mem := (zrep (rgO true 1 gLg (M 0 1).toNat) (M 0 0).toNat (fgX M, ((0 : Int), (-6 : Int)))).1
def rR_largestIsland (M : Mem) : Int := ((zrep (rgR true 1 gLg) (M 39 0 * M 39 1).toNat (snM M, ((0 : Int), (-6 : Int)))).2.2)
def rM_largestIsland (M : Mem)  : Mem := (zrep (rgR true 1 gLg) (M 39 0 * M 39 1).toNat (snM M, ((0 : Int), (-6 : Int)))).1
def xR_way (M : Mem) (r : Int) (c : Int) (p : Int) (q : Int) : Int := (if inT (tsX M 0) r c = true ∧ inT (tsX M 0) p q = true then (if ((fgR M r c 2) 35 (p * 12 + q)) ≠ -1 then ((fgR M r c 2) 35 (p * 12 + q)) else -6) else -1)
def xM_way (M : Mem) (r : Int) (c : Int) (p : Int) (q : Int) : Mem := (if inT (tsX M 0) r c = true ∧ inT (tsX M 0) p q = true then (fgR M r c 2) else M)
def rR_way (M : Mem) (r : Int) (c : Int) (p : Int) (q : Int) : Int := (if inT (tsZ (M 39)) r c = true ∧ inT (tsZ (M 39)) p q = true then (frM M (M 39 1 * r + c) (decide (M 39 (3 + (M 39 1 * r + c)) = 1)) 2 144) 47 (M 39 1 * p + q) else -1)
def rM_way (M : Mem) (r : Int) (c : Int) (p : Int) (q : Int) : Mem := (if inT (tsZ (M 39)) r c = true ∧ inT (tsZ (M 39)) p q = true then (frM M (M 39 1 * r + c) (decide (M 39 (3 + (M 39 1 * r + c)) = 1)) 2 144) else M)
def xR_coastIfChanged (M : Mem) (r : Int) (c : Int) : Int := (ccA (tsX M 0) r c)
def xM_coastIfChanged (M : Mem) (r : Int) (c : Int) : Mem := M
def rR_coastIfChanged (M : Mem) (r : Int) (c : Int) : Int := (if inT (tsZ (M 39)) r c = true then coB (tsZ ((zup M 39 (3 + (M 39 1 * r + c)) (1 - M 39 (3 + (M 39 1 * r + c)))) 39)) - coB (tsZ (M 39)) + 100 else -1)
def rM_coastIfChanged (M : Mem) (r : Int) (c : Int) : Mem := M
def xR_needs (M : Mem) (r : Int) (c : Int) (s : Int) : Int := (neA (tsX M 0) r c s)
def xM_needs (M : Mem) (r : Int) (c : Int) (s : Int) : Mem := M
def rR_needs (M : Mem) (r : Int) (c : Int) (s : Int) : Int := (if inT (tsZ (M 39)) r c = true ∧ 0 ≤ s ∧ s < 47 then neB (tsZ (M 39)) r c s 8 else -1)
def rM_needs (M : Mem) (r : Int) (c : Int) (s : Int) : Mem := M
def xR_append (M : Mem) (x : Int) : Int := (if 33 ≤ x ∧ x ≤ 126 then (if M 36 1 < 80 then M 36 1 + 1 else -4) else -2)
def xM_append (M : Mem) (x : Int) : Mem := (if 33 ≤ x ∧ x ≤ 126 then addM M x else M)
def rR_append (M : Mem) (x : Int) : Int := (if 33 ≤ x ∧ x ≤ 126 then (if M 38 6 < 80 then M 38 6 + 1 else -4) else -2)
def rM_append (M : Mem) (x : Int) : Mem := (if 33 ≤ x ∧ x ≤ 126 ∧ M 38 6 < 80 then zup (zup M 42 (M 38 6) x) 38 6 (M 38 6 + 1) else M)
def xR_clearText (M : Mem) : Int := (M 36 1)
def xM_clearText (M : Mem)  : Mem := (zup M 36 1 0)
def rR_clearText (M : Mem) : Int := (M 38 6)
def rM_clearText (M : Mem)  : Mem := (zup M 38 6 0)
def xR_errorPosition (M : Mem) : Int := (epT (M 37) (M 36 1).toNat)
def xM_errorPosition (M : Mem)  : Mem := paX M
def rR_errorPosition (M : Mem) : Int := (epT (M 42) (M 38 6).toNat)
def rM_errorPosition (M : Mem)  : Mem := erM M
def xR_read (M : Mem) : Int := (if epT (M 37) (M 36 1).toNat = -6 then lnT (tsX (rdX M) 0) else -5)
def xM_read (M : Mem)  : Mem := (if epT (M 37) (M 36 1).toNat = -6 then rdX M else paX M)
def rR_read (M : Mem) : Int := (if epT (M 42) (M 38 6).toNat = -6 then lnT (tsZ (rdM M 39)) else -5)
def rM_read (M : Mem)  : Mem := (if epT (M 42) (M 38 6).toNat = -6 then rdM M else erM M)
def xR_undo (M : Mem) : Int := (if 1 ≤ M 31 1 then M 31 1 - 1 else -3)
def xM_undo (M : Mem)  : Mem := (if 1 ≤ M 31 1 then tkM M else M)
def rR_undo (M : Mem) : Int := (if M 38 2 = 0 then -3 else M 38 2 - 1)
def rM_undo (M : Mem)  : Mem := (if M 38 2 = 0 then M else unR M)
def xR_save (M : Mem) : Int := (lnT (tsX M 0))
def xM_save (M : Mem)  : Mem := (zup (copM M 2 0 144) 27 4 (zbz true))
def rR_save (M : Mem) : Int := (lnT (tsZ (M 39)))
def rM_save (M : Mem)  : Mem := svR M
def xR_restore (M : Mem) : Int := (if M 27 4 = 1 then lnT (tsX M 2) else -3)
def xM_restore (M : Mem)  : Mem := (if M 27 4 = 1 then (copM (recM M) 0 2 144) else M)
def rR_restore (M : Mem) : Int := (if M 38 4 = 1 then lnT (tsZ (M 41)) else -3)
def rM_restore (M : Mem)  : Mem := (if M 38 4 = 1 then rsR M else M)
