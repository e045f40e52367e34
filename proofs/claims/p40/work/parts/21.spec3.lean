def coB (t : TS) : Int := z2 t (fun r c n => n + coT t r c) 0
def neB (t : TS) (r c s : Int) (n : Nat) : Int := zrep (fun (d : Nat) (x : Int) => if x = -6 then x else if ((d : Int) % 2 = 0 ∨ biZ (mkZ s) (d - 1) + biZ (mkZ s) (d + 1) = 2) ∧ laT t (r + zrow d) (c + zcol d) ≠ decide (biZ (mkZ s) d = 1) then (if inT t (r + zrow d) (c + zcol d) then x + 1 else -6) else x) n 0
