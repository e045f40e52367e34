/-! ===== the reference's turn, cell by cell ===== -/
/-- the map, turned once -/
def toT (t : TS) : TS := (tW t, tH t, tO t, fun r c => t.2.2.2.1 (tH t - 1 - c) r, fun r c => if t.2.2.2.2 (tH t - 1 - c) r = -1 then -1 else tuZ (t.2.2.2.2 (tH t - 1 - c) r) 1)
