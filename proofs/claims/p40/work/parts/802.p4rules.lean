section ZP4
variable {K : Kp} {X : CX} {pc : Nat} {lv lv' : List (Nat × MV)} {st : List MV} {M M' : Mem}
theorem z_alw (hc : zCx K X) {q : Nat} {x : Nat} (n : Nat) (hn : lv[n]? = some (q, zR x)) (dg : decode K.1 pc = .ok (.aload q, 2)) (k : zJW X (pc + 2) lv (zR x :: st) M) : zJW X pc lv st M := by
  obtain ⟨p, l, e, R, s, m, args, below, meth, c, D, dA, ids, ad, A, cs, nL, Q⟩ := X
  obtain ⟨hx, hb, -⟩ := hc
  intro H locs ls hP hS hv
  exact lv_aload hx hb dg (zlv_at hv n hn) (k H locs ls hP hS hv)
theorem z_asw (hc : zCx K X) {q : Nat} {x : Nat} (hl : zset q (zR x) lv = lv') (hq : q < K.2.1) (dg : decode K.1 pc = .ok (.astore q, 2)) (k : zJW X (pc + 2) lv' st M) : zJW X pc lv (zR x :: st) M := by
  obtain ⟨p, l, e, R, s, m, args, below, meth, c, D, dA, ids, ad, A, cs, nL, Q⟩ := X
  obtain ⟨hx, hb, -, -, -, -, -, -, -, -, -, -, -, -, -, -, -, -, -, hnl⟩ := hc
  intro H locs ls hP hS hv
  exact lv_astore hx hb dg hv (by omega) ((zset_map ad q (zR x) lv).trans (by rw [hl])) (fun ls' h' => k H locs ls' hP hS h')
theorem z_dup2 (hc : zCx K X) {v w : MV} (hv1 : zcat v = 1) (hw1 : zcat w = 1) (dg : decode K.1 pc = .ok (.dup2, 1)) (k : zJW X (pc + 1) lv (v :: w :: v :: w :: st) M) : zJW X pc lv (v :: w :: st) M := by
  obtain ⟨p, l, e, R, s, m, args, below, meth, c, D, dA, ids, ad, A, cs, nL, Q⟩ := X
  obtain ⟨hx, hb, -⟩ := hc
  intro H locs ls hP hS hv
  exact lv_dup2_11 hx hb dg ((zcat_eq ad v).trans hv1) ((zcat_eq ad w).trans hw1) (k H locs ls hP hS hv)
end ZP4
