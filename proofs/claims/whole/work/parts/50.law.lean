/-! THE LAW'S LOOP -/
theorem zz_ts_0_38 (x : Int32) : x = 0 ∨ x = 1 ∨ x = 2 ∨ x = 3 ∨ x = 4 ∨ x = 5 ∨ x = 6 ∨ x = 7 ∨ x = 8 ∨ x = 9 ∨ x = 10 ∨ x = 11 ∨ x = 12 ∨ x = 13 ∨ x = 14 ∨ x = 15 ∨ x = 16 ∨ x = 17 ∨ x = 18 ∨ x = 19 ∨ x = 20 ∨ x = 21 ∨ x = 22 ∨ x = 23 ∨ x = 24 ∨ x = 25 ∨ x = 26 ∨ x = 27 ∨ x = 28 ∨ x = 29 ∨ x = 30 ∨ x = 31 ∨ x = 32 ∨ x = 33 ∨ x = 34 ∨ x = 35 ∨ x = 36 ∨ x = 37 ∨ x = 38 ∨ (x.toInt < 0 ∨ 38 < x.toInt) := by
  have hc : x.toInt = 0 ∨ x.toInt = 1 ∨ x.toInt = 2 ∨ x.toInt = 3 ∨ x.toInt = 4 ∨ x.toInt = 5 ∨ x.toInt = 6 ∨ x.toInt = 7 ∨ x.toInt = 8 ∨ x.toInt = 9 ∨ x.toInt = 10 ∨ x.toInt = 11 ∨ x.toInt = 12 ∨ x.toInt = 13 ∨ x.toInt = 14 ∨ x.toInt = 15 ∨ x.toInt = 16 ∨ x.toInt = 17 ∨ x.toInt = 18 ∨ x.toInt = 19 ∨ x.toInt = 20 ∨ x.toInt = 21 ∨ x.toInt = 22 ∨ x.toInt = 23 ∨ x.toInt = 24 ∨ x.toInt = 25 ∨ x.toInt = 26 ∨ x.toInt = 27 ∨ x.toInt = 28 ∨ x.toInt = 29 ∨ x.toInt = 30 ∨ x.toInt = 31 ∨ x.toInt = 32 ∨ x.toInt = 33 ∨ x.toInt = 34 ∨ x.toInt = 35 ∨ x.toInt = 36 ∨ x.toInt = 37 ∨ x.toInt = 38 ∨ (x.toInt < 0 ∨ 38 < x.toInt) := by omega
  rcases hc with c | c | c | c | c | c | c | c | c | c | c | c | c | c | c | c | c | c | c | c | c | c | c | c | c | c | c | c | c | c | c | c | c | c | c | c | c | c | c | c
  · exact Or.inl (Int32.toInt_inj.mp (by rw [c]; rfl))
  · exact Or.inr (Or.inl (Int32.toInt_inj.mp (by rw [c]; rfl)))
  · exact Or.inr (Or.inr (Or.inl (Int32.toInt_inj.mp (by rw [c]; rfl))))
  · exact Or.inr (Or.inr (Or.inr (Or.inl (Int32.toInt_inj.mp (by rw [c]; rfl)))))
  · exact Or.inr (Or.inr (Or.inr (Or.inr (Or.inl (Int32.toInt_inj.mp (by rw [c]; rfl))))))
  · exact Or.inr (Or.inr (Or.inr (Or.inr (Or.inr (Or.inl (Int32.toInt_inj.mp (by rw [c]; rfl)))))))
  · exact Or.inr (Or.inr (Or.inr (Or.inr (Or.inr (Or.inr (Or.inl (Int32.toInt_inj.mp (by rw [c]; rfl))))))))
  · exact Or.inr (Or.inr (Or.inr (Or.inr (Or.inr (Or.inr (Or.inr (Or.inl (Int32.toInt_inj.mp (by rw [c]; rfl)))))))))
  · exact Or.inr (Or.inr (Or.inr (Or.inr (Or.inr (Or.inr (Or.inr (Or.inr (Or.inl (Int32.toInt_inj.mp (by rw [c]; rfl))))))))))
  · exact Or.inr (Or.inr (Or.inr (Or.inr (Or.inr (Or.inr (Or.inr (Or.inr (Or.inr (Or.inl (Int32.toInt_inj.mp (by rw [c]; rfl)))))))))))
  · exact Or.inr (Or.inr (Or.inr (Or.inr (Or.inr (Or.inr (Or.inr (Or.inr (Or.inr (Or.inr (Or.inl (Int32.toInt_inj.mp (by rw [c]; rfl))))))))))))
  · exact Or.inr (Or.inr (Or.inr (Or.inr (Or.inr (Or.inr (Or.inr (Or.inr (Or.inr (Or.inr (Or.inr (Or.inl (Int32.toInt_inj.mp (by rw [c]; rfl)))))))))))))
  · exact Or.inr (Or.inr (Or.inr (Or.inr (Or.inr (Or.inr (Or.inr (Or.inr (Or.inr (Or.inr (Or.inr (Or.inr (Or.inl (Int32.toInt_inj.mp (by rw [c]; rfl))))))))))))))
  · exact Or.inr (Or.inr (Or.inr (Or.inr (Or.inr (Or.inr (Or.inr (Or.inr (Or.inr (Or.inr (Or.inr (Or.inr (Or.inr (Or.inl (Int32.toInt_inj.mp (by rw [c]; rfl)))))))))))))))
  · exact Or.inr (Or.inr (Or.inr (Or.inr (Or.inr (Or.inr (Or.inr (Or.inr (Or.inr (Or.inr (Or.inr (Or.inr (Or.inr (Or.inr (Or.inl (Int32.toInt_inj.mp (by rw [c]; rfl))))))))))))))))
  · exact Or.inr (Or.inr (Or.inr (Or.inr (Or.inr (Or.inr (Or.inr (Or.inr (Or.inr (Or.inr (Or.inr (Or.inr (Or.inr (Or.inr (Or.inr (Or.inl (Int32.toInt_inj.mp (by rw [c]; rfl)))))))))))))))))
  · exact Or.inr (Or.inr (Or.inr (Or.inr (Or.inr (Or.inr (Or.inr (Or.inr (Or.inr (Or.inr (Or.inr (Or.inr (Or.inr (Or.inr (Or.inr (Or.inr (Or.inl (Int32.toInt_inj.mp (by rw [c]; rfl))))))))))))))))))
  · exact Or.inr (Or.inr (Or.inr (Or.inr (Or.inr (Or.inr (Or.inr (Or.inr (Or.inr (Or.inr (Or.inr (Or.inr (Or.inr (Or.inr (Or.inr (Or.inr (Or.inr (Or.inl (Int32.toInt_inj.mp (by rw [c]; rfl)))))))))))))))))))
  · exact Or.inr (Or.inr (Or.inr (Or.inr (Or.inr (Or.inr (Or.inr (Or.inr (Or.inr (Or.inr (Or.inr (Or.inr (Or.inr (Or.inr (Or.inr (Or.inr (Or.inr (Or.inr (Or.inl (Int32.toInt_inj.mp (by rw [c]; rfl))))))))))))))))))))
  · exact Or.inr (Or.inr (Or.inr (Or.inr (Or.inr (Or.inr (Or.inr (Or.inr (Or.inr (Or.inr (Or.inr (Or.inr (Or.inr (Or.inr (Or.inr (Or.inr (Or.inr (Or.inr (Or.inr (Or.inl (Int32.toInt_inj.mp (by rw [c]; rfl)))))))))))))))))))))
  · exact Or.inr (Or.inr (Or.inr (Or.inr (Or.inr (Or.inr (Or.inr (Or.inr (Or.inr (Or.inr (Or.inr (Or.inr (Or.inr (Or.inr (Or.inr (Or.inr (Or.inr (Or.inr (Or.inr (Or.inr (Or.inl (Int32.toInt_inj.mp (by rw [c]; rfl))))))))))))))))))))))
  · exact Or.inr (Or.inr (Or.inr (Or.inr (Or.inr (Or.inr (Or.inr (Or.inr (Or.inr (Or.inr (Or.inr (Or.inr (Or.inr (Or.inr (Or.inr (Or.inr (Or.inr (Or.inr (Or.inr (Or.inr (Or.inr (Or.inl (Int32.toInt_inj.mp (by rw [c]; rfl)))))))))))))))))))))))
  · exact Or.inr (Or.inr (Or.inr (Or.inr (Or.inr (Or.inr (Or.inr (Or.inr (Or.inr (Or.inr (Or.inr (Or.inr (Or.inr (Or.inr (Or.inr (Or.inr (Or.inr (Or.inr (Or.inr (Or.inr (Or.inr (Or.inr (Or.inl (Int32.toInt_inj.mp (by rw [c]; rfl))))))))))))))))))))))))
  · exact Or.inr (Or.inr (Or.inr (Or.inr (Or.inr (Or.inr (Or.inr (Or.inr (Or.inr (Or.inr (Or.inr (Or.inr (Or.inr (Or.inr (Or.inr (Or.inr (Or.inr (Or.inr (Or.inr (Or.inr (Or.inr (Or.inr (Or.inr (Or.inl (Int32.toInt_inj.mp (by rw [c]; rfl)))))))))))))))))))))))))
  · exact Or.inr (Or.inr (Or.inr (Or.inr (Or.inr (Or.inr (Or.inr (Or.inr (Or.inr (Or.inr (Or.inr (Or.inr (Or.inr (Or.inr (Or.inr (Or.inr (Or.inr (Or.inr (Or.inr (Or.inr (Or.inr (Or.inr (Or.inr (Or.inr (Or.inl (Int32.toInt_inj.mp (by rw [c]; rfl))))))))))))))))))))))))))
  · exact Or.inr (Or.inr (Or.inr (Or.inr (Or.inr (Or.inr (Or.inr (Or.inr (Or.inr (Or.inr (Or.inr (Or.inr (Or.inr (Or.inr (Or.inr (Or.inr (Or.inr (Or.inr (Or.inr (Or.inr (Or.inr (Or.inr (Or.inr (Or.inr (Or.inr (Or.inl (Int32.toInt_inj.mp (by rw [c]; rfl)))))))))))))))))))))))))))
  · exact Or.inr (Or.inr (Or.inr (Or.inr (Or.inr (Or.inr (Or.inr (Or.inr (Or.inr (Or.inr (Or.inr (Or.inr (Or.inr (Or.inr (Or.inr (Or.inr (Or.inr (Or.inr (Or.inr (Or.inr (Or.inr (Or.inr (Or.inr (Or.inr (Or.inr (Or.inr (Or.inl (Int32.toInt_inj.mp (by rw [c]; rfl))))))))))))))))))))))))))))
  · exact Or.inr (Or.inr (Or.inr (Or.inr (Or.inr (Or.inr (Or.inr (Or.inr (Or.inr (Or.inr (Or.inr (Or.inr (Or.inr (Or.inr (Or.inr (Or.inr (Or.inr (Or.inr (Or.inr (Or.inr (Or.inr (Or.inr (Or.inr (Or.inr (Or.inr (Or.inr (Or.inr (Or.inl (Int32.toInt_inj.mp (by rw [c]; rfl)))))))))))))))))))))))))))))
  · exact Or.inr (Or.inr (Or.inr (Or.inr (Or.inr (Or.inr (Or.inr (Or.inr (Or.inr (Or.inr (Or.inr (Or.inr (Or.inr (Or.inr (Or.inr (Or.inr (Or.inr (Or.inr (Or.inr (Or.inr (Or.inr (Or.inr (Or.inr (Or.inr (Or.inr (Or.inr (Or.inr (Or.inr (Or.inl (Int32.toInt_inj.mp (by rw [c]; rfl))))))))))))))))))))))))))))))
  · exact Or.inr (Or.inr (Or.inr (Or.inr (Or.inr (Or.inr (Or.inr (Or.inr (Or.inr (Or.inr (Or.inr (Or.inr (Or.inr (Or.inr (Or.inr (Or.inr (Or.inr (Or.inr (Or.inr (Or.inr (Or.inr (Or.inr (Or.inr (Or.inr (Or.inr (Or.inr (Or.inr (Or.inr (Or.inr (Or.inl (Int32.toInt_inj.mp (by rw [c]; rfl)))))))))))))))))))))))))))))))
  · exact Or.inr (Or.inr (Or.inr (Or.inr (Or.inr (Or.inr (Or.inr (Or.inr (Or.inr (Or.inr (Or.inr (Or.inr (Or.inr (Or.inr (Or.inr (Or.inr (Or.inr (Or.inr (Or.inr (Or.inr (Or.inr (Or.inr (Or.inr (Or.inr (Or.inr (Or.inr (Or.inr (Or.inr (Or.inr (Or.inr (Or.inl (Int32.toInt_inj.mp (by rw [c]; rfl))))))))))))))))))))))))))))))))
  · exact Or.inr (Or.inr (Or.inr (Or.inr (Or.inr (Or.inr (Or.inr (Or.inr (Or.inr (Or.inr (Or.inr (Or.inr (Or.inr (Or.inr (Or.inr (Or.inr (Or.inr (Or.inr (Or.inr (Or.inr (Or.inr (Or.inr (Or.inr (Or.inr (Or.inr (Or.inr (Or.inr (Or.inr (Or.inr (Or.inr (Or.inr (Or.inl (Int32.toInt_inj.mp (by rw [c]; rfl)))))))))))))))))))))))))))))))))
  · exact Or.inr (Or.inr (Or.inr (Or.inr (Or.inr (Or.inr (Or.inr (Or.inr (Or.inr (Or.inr (Or.inr (Or.inr (Or.inr (Or.inr (Or.inr (Or.inr (Or.inr (Or.inr (Or.inr (Or.inr (Or.inr (Or.inr (Or.inr (Or.inr (Or.inr (Or.inr (Or.inr (Or.inr (Or.inr (Or.inr (Or.inr (Or.inr (Or.inl (Int32.toInt_inj.mp (by rw [c]; rfl))))))))))))))))))))))))))))))))))
  · exact Or.inr (Or.inr (Or.inr (Or.inr (Or.inr (Or.inr (Or.inr (Or.inr (Or.inr (Or.inr (Or.inr (Or.inr (Or.inr (Or.inr (Or.inr (Or.inr (Or.inr (Or.inr (Or.inr (Or.inr (Or.inr (Or.inr (Or.inr (Or.inr (Or.inr (Or.inr (Or.inr (Or.inr (Or.inr (Or.inr (Or.inr (Or.inr (Or.inr (Or.inl (Int32.toInt_inj.mp (by rw [c]; rfl)))))))))))))))))))))))))))))))))))
  · exact Or.inr (Or.inr (Or.inr (Or.inr (Or.inr (Or.inr (Or.inr (Or.inr (Or.inr (Or.inr (Or.inr (Or.inr (Or.inr (Or.inr (Or.inr (Or.inr (Or.inr (Or.inr (Or.inr (Or.inr (Or.inr (Or.inr (Or.inr (Or.inr (Or.inr (Or.inr (Or.inr (Or.inr (Or.inr (Or.inr (Or.inr (Or.inr (Or.inr (Or.inr (Or.inl (Int32.toInt_inj.mp (by rw [c]; rfl))))))))))))))))))))))))))))))))))))
  · exact Or.inr (Or.inr (Or.inr (Or.inr (Or.inr (Or.inr (Or.inr (Or.inr (Or.inr (Or.inr (Or.inr (Or.inr (Or.inr (Or.inr (Or.inr (Or.inr (Or.inr (Or.inr (Or.inr (Or.inr (Or.inr (Or.inr (Or.inr (Or.inr (Or.inr (Or.inr (Or.inr (Or.inr (Or.inr (Or.inr (Or.inr (Or.inr (Or.inr (Or.inr (Or.inr (Or.inl (Int32.toInt_inj.mp (by rw [c]; rfl)))))))))))))))))))))))))))))))))))))
  · exact Or.inr (Or.inr (Or.inr (Or.inr (Or.inr (Or.inr (Or.inr (Or.inr (Or.inr (Or.inr (Or.inr (Or.inr (Or.inr (Or.inr (Or.inr (Or.inr (Or.inr (Or.inr (Or.inr (Or.inr (Or.inr (Or.inr (Or.inr (Or.inr (Or.inr (Or.inr (Or.inr (Or.inr (Or.inr (Or.inr (Or.inr (Or.inr (Or.inr (Or.inr (Or.inr (Or.inr (Or.inl (Int32.toInt_inj.mp (by rw [c]; rfl))))))))))))))))))))))))))))))))))))))
  · exact Or.inr (Or.inr (Or.inr (Or.inr (Or.inr (Or.inr (Or.inr (Or.inr (Or.inr (Or.inr (Or.inr (Or.inr (Or.inr (Or.inr (Or.inr (Or.inr (Or.inr (Or.inr (Or.inr (Or.inr (Or.inr (Or.inr (Or.inr (Or.inr (Or.inr (Or.inr (Or.inr (Or.inr (Or.inr (Or.inr (Or.inr (Or.inr (Or.inr (Or.inr (Or.inr (Or.inr (Or.inr (Or.inl (Int32.toInt_inj.mp (by rw [c]; rfl)))))))))))))))))))))))))))))))))))))))
  · exact Or.inr (Or.inr (Or.inr (Or.inr (Or.inr (Or.inr (Or.inr (Or.inr (Or.inr (Or.inr (Or.inr (Or.inr (Or.inr (Or.inr (Or.inr (Or.inr (Or.inr (Or.inr (Or.inr (Or.inr (Or.inr (Or.inr (Or.inr (Or.inr (Or.inr (Or.inr (Or.inr (Or.inr (Or.inr (Or.inr (Or.inr (Or.inr (Or.inr (Or.inr (Or.inr (Or.inr (Or.inr (Or.inr (Or.inl (Int32.toInt_inj.mp (by rw [c]; rfl))))))))))))))))))))))))))))))))))))))))
  · exact Or.inr (Or.inr (Or.inr (Or.inr (Or.inr (Or.inr (Or.inr (Or.inr (Or.inr (Or.inr (Or.inr (Or.inr (Or.inr (Or.inr (Or.inr (Or.inr (Or.inr (Or.inr (Or.inr (Or.inr (Or.inr (Or.inr (Or.inr (Or.inr (Or.inr (Or.inr (Or.inr (Or.inr (Or.inr (Or.inr (Or.inr (Or.inr (Or.inr (Or.inr (Or.inr (Or.inr (Or.inr (Or.inr (Or.inr (c)))))))))))))))))))))))))))))))))))))))
section LawRows
variable {β : zz_B} {n : Nat} {cc : ByteArray} {own : String} {fr lo : Nat} {ws : va_W} {pc : Nat} {lv : List (Nat × Value)} {rest : List Value}
variable {p : Program} {e : Env} {R : Room} {s : State} {m : MethodId} {args : Array Value} {below : List Frame} {meth : Method} {c : Code} {Q : State → Prop} {A : Nat → Prop} {nc ns : Nat} {b L : Nat} {xs : Nat → Int32}
theorem zv_sld {i : Int32} (g : zG β n ((p, e, R, s), (m, args, below, meth, c), (Q, A, nc, ns)) cc own fr lo) (hX : va_X b L xs s s.heap) (hbl : b < s.heap.size) (hbA : ¬ A b) (hin : vp_in i L) (hd : decode cc pc = .ok (.iaload, 1)) (k : zV β n ((p, e, R, s), (m, args, below, meth, c), (Q, A, nc, ns)) ws (pc + 1) lv (.int (xs i.toNatClampNeg) :: rest)) : zV β n ((p, e, R, s), (m, args, below, meth, c), (Q, A, nc, ns)) ws pc lv (.int i :: .ref b :: rest) := by
  obtain ⟨hx, hb, hml, hown, hts, hK, hlk, hA, ⟨hfr, hlo⟩, ⟨hnc, hns⟩, hE⟩ := g
  intro H locs ls hP hD hS hl
  exact va_sld hx hb hX hbl hbA hS hin hd (k H locs ls hP hD hS hl)
theorem zv_slen (g : zG β n ((p, e, R, s), (m, args, below, meth, c), (Q, A, nc, ns)) cc own fr lo) (hX : va_X b L xs s s.heap) (hbl : b < s.heap.size) (hbA : ¬ A b) (hd : decode cc pc = .ok (.arraylength, 1)) (k : zV β n ((p, e, R, s), (m, args, below, meth, c), (Q, A, nc, ns)) ws (pc + 1) lv (.int (nI L) :: rest)) : zV β n ((p, e, R, s), (m, args, below, meth, c), (Q, A, nc, ns)) ws pc lv (.ref b :: rest) := by
  obtain ⟨hx, hb, hml, hown, hts, hK, hlk, hA, ⟨hfr, hlo⟩, ⟨hnc, hns⟩, hE⟩ := g
  intro H locs ls hP hD hS hl
  exact va_slen hx hb hX hbl hbA hS hd (k H locs ls hP hD hS hl)
end LawRows
theorem law_end {i L : Nat} (hi : i < 2 ^ 20) (hL : L < 2 ^ 20) : (nI L - 6 < nI i) ↔ L < i + 6 := by
  rw [Int32.lt_iff_toInt_lt, show (nI L - 6).toInt = (L : Int) - 6 from pk_sub_toInt (b := 6) (by omega) (by decide), nI_toInt (by omega)]
  omega
theorem law_in {i L j : Nat} (h : ¬ L < i + 6) (hj : j < 6) (hL : L < 2 ^ 20) : vp_in (nI i + nI j) L := by
  rw [nI_add]
  exact vp_in_nI (by omega) (by omega)
section LawLoop
variable {β : zz_B} {p : Program} {e : Env} {s : State} {m : MethodId} {below : List Frame} {meth : Method} {c : Code} {nc ns bs L : Nat} {xs : Nat → Int32} {b a : Nat → Nat}
set_option maxRecDepth 100000 in
set_option maxHeartbeats 1000000 in
theorem lc_0 (g : zG β 4 ((p, e, room_1, s), (m, #[Value.ref bs], below, meth, c), (lw_Z below #[Value.ref bs] s, (fun q : Nat => s.heap.size ≤ q), nc, ns)) code RL 14 516) (hX : va_X bs L xs s s.heap) (hbl : bs < s.heap.size) (hL : L ≤ 3072) {i : Nat} (hin : ¬ L < i + 6) (nx : ∀ (X2 : XSt) (M2 : MSt), Rel X2 M2 → zV β 4 ((p, e, room_1, s), (m, #[Value.ref bs], below, meth, c), (lw_Z below #[Value.ref bs] s, (fun q : Nat => s.heap.size ≤ q), nc, ns)) (xW β b X2 ++ mW β a M2) 1402 [(0, .ref bs), (1, .ref (b 0)), (2, .ref (a 0)), (3, .int (nI i))] []) {X : XSt} {M : MSt} (R : Rel X M) : zV β 4 ((p, e, room_1, s), (m, #[Value.ref bs], below, meth, c), (lw_Z below #[Value.ref bs] s, (fun q : Nat => s.heap.size ≤ q), nc, ns)) (xW β b X ++ mW β a M) 204 [(0, .ref bs), (1, .ref (b 0)), (2, .ref (a 0)), (3, .int (nI i))] [] := by
  have hbA : ¬ (fun q : Nat => s.heap.size ≤ q) bs := Nat.not_le.mpr hbl
  refine zv_aload_n (pc := 204) g dL_law_204 1 rfl rfl ?_
  refine zv_aload_n (pc := 205) g dL_law_205 0 rfl rfl ?_
  refine zv_iload_n (pc := 206) g dL_law_206 3 rfl rfl ?_
  refine zv_iconst (pc := 207) g dL_law_207 (v := 1) (by decide) ?_
  refine zv_iadd (pc := 208) g dL_law_208 ?_
  refine zv_sld (pc := 209) g hX hbl hbA (law_in hin (j := 1) (by omega) (by omega)) dL_law_209 ?_
  refine zv_cVi (pc := 210) g cw_L_13 (ctX4_falls (op_falls R (xs (Int32.toNatClampNeg (nI i + 1))))) (by decide) (by decide) (List.Perm.refl _) (fun T => xW β b T ++ mW β a M) (fun T => List.Perm.refl _) (q := 0) rfl rfl rfl rfl rfl (Nat.le_of_ble_eq_true rfl) dL_law_210 (fun v1 T h => ?_)
  refine zv_aload_n (pc := 213) g dL_law_213 2 rfl rfl ?_
  refine zv_aload_n (pc := 214) g dL_law_214 0 rfl rfl ?_
  refine zv_iload_n (pc := 215) g dL_law_215 3 rfl rfl ?_
  refine zv_iconst (pc := 216) g dL_law_216 (v := 1) (by decide) ?_
  refine zv_iadd (pc := 217) g dL_law_217 ?_
  refine zv_sld (pc := 218) g hX hbl hbA (law_in hin (j := 1) (by omega) (by omega)) dL_law_218 ?_
  refine zv_cVi (pc := 219) g cw_L_17 (ctX5_falls h) (by decide) (by decide) List.perm_append_comm (fun N => xW β b T ++ mW β a N) (fun N => List.perm_append_comm) (q := 0) rfl rfl rfl rfl rfl (Nat.le_of_ble_eq_true rfl) dL_law_219 (fun v2 N h => ?_)
  obtain ⟨e1, R2⟩ := h
  subst e1
  refine zv_icmp_eq (pc := 222) 1402 g dL_law_222 rfl (fun _ => ?_) (fun q => absurd rfl q)
  exact nx T N R2
set_option maxRecDepth 100000 in
set_option maxHeartbeats 1000000 in
theorem lc_1 (g : zG β 4 ((p, e, room_1, s), (m, #[Value.ref bs], below, meth, c), (lw_Z below #[Value.ref bs] s, (fun q : Nat => s.heap.size ≤ q), nc, ns)) code RL 14 516) (hX : va_X bs L xs s s.heap) (hbl : bs < s.heap.size) (hL : L ≤ 3072) {i : Nat} (hin : ¬ L < i + 6) (nx : ∀ (X2 : XSt) (M2 : MSt), Rel X2 M2 → zV β 4 ((p, e, room_1, s), (m, #[Value.ref bs], below, meth, c), (lw_Z below #[Value.ref bs] s, (fun q : Nat => s.heap.size ≤ q), nc, ns)) (xW β b X2 ++ mW β a M2) 1402 [(0, .ref bs), (1, .ref (b 0)), (2, .ref (a 0)), (3, .int (nI i))] []) {X : XSt} {M : MSt} (R : Rel X M) : zV β 4 ((p, e, room_1, s), (m, #[Value.ref bs], below, meth, c), (lw_Z below #[Value.ref bs] s, (fun q : Nat => s.heap.size ≤ q), nc, ns)) (xW β b X ++ mW β a M) 227 [(0, .ref bs), (1, .ref (b 0)), (2, .ref (a 0)), (3, .int (nI i))] [] := by
  have hbA : ¬ (fun q : Nat => s.heap.size ≤ q) bs := Nat.not_le.mpr hbl
  refine zv_aload_n (pc := 227) g dL_law_227 1 rfl rfl ?_
  refine zv_aload_n (pc := 228) g dL_law_228 0 rfl rfl ?_
  refine zv_iload_n (pc := 229) g dL_law_229 3 rfl rfl ?_
  refine zv_iconst (pc := 230) g dL_law_230 (v := 1) (by decide) ?_
  refine zv_iadd (pc := 231) g dL_law_231 ?_
  refine zv_sld (pc := 232) g hX hbl hbA (law_in hin (j := 1) (by omega) (by omega)) dL_law_232 ?_
  refine zv_aload_n (pc := 233) g dL_law_233 0 rfl rfl ?_
  refine zv_iload_n (pc := 234) g dL_law_234 3 rfl rfl ?_
  refine zv_iconst (pc := 235) g dL_law_235 (v := 2) (by decide) ?_
  refine zv_iadd (pc := 236) g dL_law_236 ?_
  refine zv_sld (pc := 237) g hX hbl hbA (law_in hin (j := 2) (by omega) (by omega)) dL_law_237 ?_
  refine zv_aload_n (pc := 238) g dL_law_238 0 rfl rfl ?_
  refine zv_iload_n (pc := 239) g dL_law_239 3 rfl rfl ?_
  refine zv_iconst (pc := 240) g dL_law_240 (v := 3) (by decide) ?_
  refine zv_iadd (pc := 241) g dL_law_241 ?_
  refine zv_sld (pc := 242) g hX hbl hbA (law_in hin (j := 3) (by omega) (by omega)) dL_law_242 ?_
  refine zv_cVi (pc := 243) g cw_L_18 (ctX4_room (op_room R (xs (Int32.toNatClampNeg (nI i + 1))) (xs (Int32.toNatClampNeg (nI i + 2))) (xs (Int32.toNatClampNeg (nI i + 3))))) (by decide) (by decide) (List.Perm.refl _) (fun T => xW β b T ++ mW β a M) (fun T => List.Perm.refl _) (q := 0) rfl rfl rfl rfl rfl (Nat.le_of_ble_eq_true rfl) dL_law_243 (fun v1 T h => ?_)
  refine zv_aload_n (pc := 246) g dL_law_246 2 rfl rfl ?_
  refine zv_aload_n (pc := 247) g dL_law_247 0 rfl rfl ?_
  refine zv_iload_n (pc := 248) g dL_law_248 3 rfl rfl ?_
  refine zv_iconst (pc := 249) g dL_law_249 (v := 1) (by decide) ?_
  refine zv_iadd (pc := 250) g dL_law_250 ?_
  refine zv_sld (pc := 251) g hX hbl hbA (law_in hin (j := 1) (by omega) (by omega)) dL_law_251 ?_
  refine zv_aload_n (pc := 252) g dL_law_252 0 rfl rfl ?_
  refine zv_iload_n (pc := 253) g dL_law_253 3 rfl rfl ?_
  refine zv_iconst (pc := 254) g dL_law_254 (v := 2) (by decide) ?_
  refine zv_iadd (pc := 255) g dL_law_255 ?_
  refine zv_sld (pc := 256) g hX hbl hbA (law_in hin (j := 2) (by omega) (by omega)) dL_law_256 ?_
  refine zv_aload_n (pc := 257) g dL_law_257 0 rfl rfl ?_
  refine zv_iload_n (pc := 258) g dL_law_258 3 rfl rfl ?_
  refine zv_iconst (pc := 259) g dL_law_259 (v := 3) (by decide) ?_
  refine zv_iadd (pc := 260) g dL_law_260 ?_
  refine zv_sld (pc := 261) g hX hbl hbA (law_in hin (j := 3) (by omega) (by omega)) dL_law_261 ?_
  refine zv_cVi (pc := 262) g cw_L_22 (ctX5_room h) (by decide) (by decide) List.perm_append_comm (fun N => xW β b T ++ mW β a N) (fun N => List.perm_append_comm) (q := 0) rfl rfl rfl rfl rfl (Nat.le_of_ble_eq_true rfl) dL_law_262 (fun v2 N h => ?_)
  obtain ⟨e1, R2⟩ := h
  subst e1
  refine zv_icmp_eq (pc := 265) 1402 g dL_law_265 rfl (fun _ => ?_) (fun q => absurd rfl q)
  exact nx T N R2
set_option maxRecDepth 100000 in
set_option maxHeartbeats 1000000 in
theorem lc_2 (g : zG β 4 ((p, e, room_1, s), (m, #[Value.ref bs], below, meth, c), (lw_Z below #[Value.ref bs] s, (fun q : Nat => s.heap.size ≤ q), nc, ns)) code RL 14 516) (hX : va_X bs L xs s s.heap) (hbl : bs < s.heap.size) (hL : L ≤ 3072) {i : Nat} (hin : ¬ L < i + 6) (nx : ∀ (X2 : XSt) (M2 : MSt), Rel X2 M2 → zV β 4 ((p, e, room_1, s), (m, #[Value.ref bs], below, meth, c), (lw_Z below #[Value.ref bs] s, (fun q : Nat => s.heap.size ≤ q), nc, ns)) (xW β b X2 ++ mW β a M2) 1402 [(0, .ref bs), (1, .ref (b 0)), (2, .ref (a 0)), (3, .int (nI i))] []) {X : XSt} {M : MSt} (R : Rel X M) : zV β 4 ((p, e, room_1, s), (m, #[Value.ref bs], below, meth, c), (lw_Z below #[Value.ref bs] s, (fun q : Nat => s.heap.size ≤ q), nc, ns)) (xW β b X ++ mW β a M) 270 [(0, .ref bs), (1, .ref (b 0)), (2, .ref (a 0)), (3, .int (nI i))] [] := by
  have hbA : ¬ (fun q : Nat => s.heap.size ≤ q) bs := Nat.not_le.mpr hbl
  refine zv_aload_n (pc := 270) g dL_law_270 1 rfl rfl ?_
  refine zv_aload_n (pc := 271) g dL_law_271 0 rfl rfl ?_
  refine zv_iload_n (pc := 272) g dL_law_272 3 rfl rfl ?_
  refine zv_iconst (pc := 273) g dL_law_273 (v := 1) (by decide) ?_
  refine zv_iadd (pc := 274) g dL_law_274 ?_
  refine zv_sld (pc := 275) g hX hbl hbA (law_in hin (j := 1) (by omega) (by omega)) dL_law_275 ?_
  refine zv_aload_n (pc := 276) g dL_law_276 0 rfl rfl ?_
  refine zv_iload_n (pc := 277) g dL_law_277 3 rfl rfl ?_
  refine zv_iconst (pc := 278) g dL_law_278 (v := 2) (by decide) ?_
  refine zv_iadd (pc := 279) g dL_law_279 ?_
  refine zv_sld (pc := 280) g hX hbl hbA (law_in hin (j := 2) (by omega) (by omega)) dL_law_280 ?_
  refine zv_cVi (pc := 281) g cw_L_23 (ctX4_roomOf (op_roomOf R (xs (Int32.toNatClampNeg (nI i + 1))) (xs (Int32.toNatClampNeg (nI i + 2))))) (by decide) (by decide) (List.Perm.refl _) (fun T => xW β b T ++ mW β a M) (fun T => List.Perm.refl _) (q := 0) rfl rfl rfl rfl rfl (Nat.le_of_ble_eq_true rfl) dL_law_281 (fun v1 T h => ?_)
  refine zv_aload_n (pc := 284) g dL_law_284 2 rfl rfl ?_
  refine zv_aload_n (pc := 285) g dL_law_285 0 rfl rfl ?_
  refine zv_iload_n (pc := 286) g dL_law_286 3 rfl rfl ?_
  refine zv_iconst (pc := 287) g dL_law_287 (v := 1) (by decide) ?_
  refine zv_iadd (pc := 288) g dL_law_288 ?_
  refine zv_sld (pc := 289) g hX hbl hbA (law_in hin (j := 1) (by omega) (by omega)) dL_law_289 ?_
  refine zv_aload_n (pc := 290) g dL_law_290 0 rfl rfl ?_
  refine zv_iload_n (pc := 291) g dL_law_291 3 rfl rfl ?_
  refine zv_iconst (pc := 292) g dL_law_292 (v := 2) (by decide) ?_
  refine zv_iadd (pc := 293) g dL_law_293 ?_
  refine zv_sld (pc := 294) g hX hbl hbA (law_in hin (j := 2) (by omega) (by omega)) dL_law_294 ?_
  refine zv_cVi (pc := 295) g cw_L_27 (ctX5_roomOf h) (by decide) (by decide) List.perm_append_comm (fun N => xW β b T ++ mW β a N) (fun N => List.perm_append_comm) (q := 0) rfl rfl rfl rfl rfl (Nat.le_of_ble_eq_true rfl) dL_law_295 (fun v2 N h => ?_)
  obtain ⟨e1, R2⟩ := h
  subst e1
  refine zv_icmp_eq (pc := 298) 1402 g dL_law_298 rfl (fun _ => ?_) (fun q => absurd rfl q)
  exact nx T N R2
set_option maxRecDepth 100000 in
set_option maxHeartbeats 1000000 in
theorem lc_3 (g : zG β 4 ((p, e, room_1, s), (m, #[Value.ref bs], below, meth, c), (lw_Z below #[Value.ref bs] s, (fun q : Nat => s.heap.size ≤ q), nc, ns)) code RL 14 516) (hX : va_X bs L xs s s.heap) (hbl : bs < s.heap.size) (hL : L ≤ 3072) {i : Nat} (hin : ¬ L < i + 6) (nx : ∀ (X2 : XSt) (M2 : MSt), Rel X2 M2 → zV β 4 ((p, e, room_1, s), (m, #[Value.ref bs], below, meth, c), (lw_Z below #[Value.ref bs] s, (fun q : Nat => s.heap.size ≤ q), nc, ns)) (xW β b X2 ++ mW β a M2) 1402 [(0, .ref bs), (1, .ref (b 0)), (2, .ref (a 0)), (3, .int (nI i))] []) {X : XSt} {M : MSt} (R : Rel X M) : zV β 4 ((p, e, room_1, s), (m, #[Value.ref bs], below, meth, c), (lw_Z below #[Value.ref bs] s, (fun q : Nat => s.heap.size ≤ q), nc, ns)) (xW β b X ++ mW β a M) 303 [(0, .ref bs), (1, .ref (b 0)), (2, .ref (a 0)), (3, .int (nI i))] [] := by
  have hbA : ¬ (fun q : Nat => s.heap.size ≤ q) bs := Nat.not_le.mpr hbl
  refine zv_aload_n (pc := 303) g dL_law_303 1 rfl rfl ?_
  refine zv_aload_n (pc := 304) g dL_law_304 0 rfl rfl ?_
  refine zv_iload_n (pc := 305) g dL_law_305 3 rfl rfl ?_
  refine zv_iconst (pc := 306) g dL_law_306 (v := 1) (by decide) ?_
  refine zv_iadd (pc := 307) g dL_law_307 ?_
  refine zv_sld (pc := 308) g hX hbl hbA (law_in hin (j := 1) (by omega) (by omega)) dL_law_308 ?_
  refine zv_cVi (pc := 309) g cw_L_28 (ctX4_now (op_now R (xs (Int32.toNatClampNeg (nI i + 1))))) (by decide) (by decide) (List.Perm.refl _) (fun T => xW β b T ++ mW β a M) (fun T => List.Perm.refl _) (q := 0) rfl rfl rfl rfl rfl (Nat.le_of_ble_eq_true rfl) dL_law_309 (fun v1 T h => ?_)
  refine zv_aload_n (pc := 312) g dL_law_312 2 rfl rfl ?_
  refine zv_aload_n (pc := 313) g dL_law_313 0 rfl rfl ?_
  refine zv_iload_n (pc := 314) g dL_law_314 3 rfl rfl ?_
  refine zv_iconst (pc := 315) g dL_law_315 (v := 1) (by decide) ?_
  refine zv_iadd (pc := 316) g dL_law_316 ?_
  refine zv_sld (pc := 317) g hX hbl hbA (law_in hin (j := 1) (by omega) (by omega)) dL_law_317 ?_
  refine zv_cVi (pc := 318) g cw_L_31 (ctX5_now h) (by decide) (by decide) List.perm_append_comm (fun N => xW β b T ++ mW β a N) (fun N => List.perm_append_comm) (q := 0) rfl rfl rfl rfl rfl (Nat.le_of_ble_eq_true rfl) dL_law_318 (fun v2 N h => ?_)
  obtain ⟨e1, R2⟩ := h
  subst e1
  refine zv_icmp_eq (pc := 321) 1402 g dL_law_321 rfl (fun _ => ?_) (fun q => absurd rfl q)
  exact nx T N R2
set_option maxRecDepth 100000 in
set_option maxHeartbeats 1000000 in
theorem lc_4 (g : zG β 4 ((p, e, room_1, s), (m, #[Value.ref bs], below, meth, c), (lw_Z below #[Value.ref bs] s, (fun q : Nat => s.heap.size ≤ q), nc, ns)) code RL 14 516) (hX : va_X bs L xs s s.heap) (hbl : bs < s.heap.size) (hL : L ≤ 3072) {i : Nat} (hin : ¬ L < i + 6) (nx : ∀ (X2 : XSt) (M2 : MSt), Rel X2 M2 → zV β 4 ((p, e, room_1, s), (m, #[Value.ref bs], below, meth, c), (lw_Z below #[Value.ref bs] s, (fun q : Nat => s.heap.size ≤ q), nc, ns)) (xW β b X2 ++ mW β a M2) 1402 [(0, .ref bs), (1, .ref (b 0)), (2, .ref (a 0)), (3, .int (nI i))] []) {X : XSt} {M : MSt} (R : Rel X M) : zV β 4 ((p, e, room_1, s), (m, #[Value.ref bs], below, meth, c), (lw_Z below #[Value.ref bs] s, (fun q : Nat => s.heap.size ≤ q), nc, ns)) (xW β b X ++ mW β a M) 326 [(0, .ref bs), (1, .ref (b 0)), (2, .ref (a 0)), (3, .int (nI i))] [] := by
  have hbA : ¬ (fun q : Nat => s.heap.size ≤ q) bs := Nat.not_le.mpr hbl
  refine zv_aload_n (pc := 326) g dL_law_326 1 rfl rfl ?_
  refine zv_aload_n (pc := 327) g dL_law_327 0 rfl rfl ?_
  refine zv_iload_n (pc := 328) g dL_law_328 3 rfl rfl ?_
  refine zv_iconst (pc := 329) g dL_law_329 (v := 1) (by decide) ?_
  refine zv_iadd (pc := 330) g dL_law_330 ?_
  refine zv_sld (pc := 331) g hX hbl hbA (law_in hin (j := 1) (by omega) (by omega)) dL_law_331 ?_
  refine zv_cVi (pc := 332) g cw_L_32 (ctX4_duster (op_duster R (xs (Int32.toNatClampNeg (nI i + 1))))) (by decide) (by decide) (List.Perm.refl _) (fun T => xW β b T ++ mW β a M) (fun T => List.Perm.refl _) (q := 0) rfl rfl rfl rfl rfl (Nat.le_of_ble_eq_true rfl) dL_law_332 (fun v1 T h => ?_)
  refine zv_aload_n (pc := 335) g dL_law_335 2 rfl rfl ?_
  refine zv_aload_n (pc := 336) g dL_law_336 0 rfl rfl ?_
  refine zv_iload_n (pc := 337) g dL_law_337 3 rfl rfl ?_
  refine zv_iconst (pc := 338) g dL_law_338 (v := 1) (by decide) ?_
  refine zv_iadd (pc := 339) g dL_law_339 ?_
  refine zv_sld (pc := 340) g hX hbl hbA (law_in hin (j := 1) (by omega) (by omega)) dL_law_340 ?_
  refine zv_cVi (pc := 341) g cw_L_35 (ctX5_duster h) (by decide) (by decide) List.perm_append_comm (fun N => xW β b T ++ mW β a N) (fun N => List.perm_append_comm) (q := 0) rfl rfl rfl rfl rfl (Nat.le_of_ble_eq_true rfl) dL_law_341 (fun v2 N h => ?_)
  obtain ⟨e1, R2⟩ := h
  subst e1
  refine zv_icmp_eq (pc := 344) 1402 g dL_law_344 rfl (fun _ => ?_) (fun q => absurd rfl q)
  exact nx T N R2
set_option maxRecDepth 100000 in
set_option maxHeartbeats 1000000 in
theorem lc_5 (g : zG β 4 ((p, e, room_1, s), (m, #[Value.ref bs], below, meth, c), (lw_Z below #[Value.ref bs] s, (fun q : Nat => s.heap.size ≤ q), nc, ns)) code RL 14 516) (hX : va_X bs L xs s s.heap) (hbl : bs < s.heap.size) (hL : L ≤ 3072) {i : Nat} (hin : ¬ L < i + 6) (nx : ∀ (X2 : XSt) (M2 : MSt), Rel X2 M2 → zV β 4 ((p, e, room_1, s), (m, #[Value.ref bs], below, meth, c), (lw_Z below #[Value.ref bs] s, (fun q : Nat => s.heap.size ≤ q), nc, ns)) (xW β b X2 ++ mW β a M2) 1402 [(0, .ref bs), (1, .ref (b 0)), (2, .ref (a 0)), (3, .int (nI i))] []) {X : XSt} {M : MSt} (R : Rel X M) : zV β 4 ((p, e, room_1, s), (m, #[Value.ref bs], below, meth, c), (lw_Z below #[Value.ref bs] s, (fun q : Nat => s.heap.size ≤ q), nc, ns)) (xW β b X ++ mW β a M) 349 [(0, .ref bs), (1, .ref (b 0)), (2, .ref (a 0)), (3, .int (nI i))] [] := by
  have hbA : ¬ (fun q : Nat => s.heap.size ≤ q) bs := Nat.not_le.mpr hbl
  refine zv_aload_n (pc := 349) g dL_law_349 1 rfl rfl ?_
  refine zv_aload_n (pc := 350) g dL_law_350 0 rfl rfl ?_
  refine zv_iload_n (pc := 351) g dL_law_351 3 rfl rfl ?_
  refine zv_iconst (pc := 352) g dL_law_352 (v := 1) (by decide) ?_
  refine zv_iadd (pc := 353) g dL_law_353 ?_
  refine zv_sld (pc := 354) g hX hbl hbA (law_in hin (j := 1) (by omega) (by omega)) dL_law_354 ?_
  refine zv_aload_n (pc := 355) g dL_law_355 0 rfl rfl ?_
  refine zv_iload_n (pc := 356) g dL_law_356 3 rfl rfl ?_
  refine zv_iconst (pc := 357) g dL_law_357 (v := 2) (by decide) ?_
  refine zv_iadd (pc := 358) g dL_law_358 ?_
  refine zv_sld (pc := 359) g hX hbl hbA (law_in hin (j := 2) (by omega) (by omega)) dL_law_359 ?_
  refine zv_cVi (pc := 360) g cw_L_36 (ctX4_of (op_of R (xs (Int32.toNatClampNeg (nI i + 1))) (xs (Int32.toNatClampNeg (nI i + 2))))) (by decide) (by decide) (List.Perm.refl _) (fun T => xW β b T ++ mW β a M) (fun T => List.Perm.refl _) (q := 0) rfl rfl rfl rfl rfl (Nat.le_of_ble_eq_true rfl) dL_law_360 (fun v1 T h => ?_)
  refine zv_aload_n (pc := 363) g dL_law_363 2 rfl rfl ?_
  refine zv_aload_n (pc := 364) g dL_law_364 0 rfl rfl ?_
  refine zv_iload_n (pc := 365) g dL_law_365 3 rfl rfl ?_
  refine zv_iconst (pc := 366) g dL_law_366 (v := 1) (by decide) ?_
  refine zv_iadd (pc := 367) g dL_law_367 ?_
  refine zv_sld (pc := 368) g hX hbl hbA (law_in hin (j := 1) (by omega) (by omega)) dL_law_368 ?_
  refine zv_aload_n (pc := 369) g dL_law_369 0 rfl rfl ?_
  refine zv_iload_n (pc := 370) g dL_law_370 3 rfl rfl ?_
  refine zv_iconst (pc := 371) g dL_law_371 (v := 2) (by decide) ?_
  refine zv_iadd (pc := 372) g dL_law_372 ?_
  refine zv_sld (pc := 373) g hX hbl hbA (law_in hin (j := 2) (by omega) (by omega)) dL_law_373 ?_
  refine zv_cVi (pc := 374) g cw_L_39 (ctX5_of h) (by decide) (by decide) List.perm_append_comm (fun N => xW β b T ++ mW β a N) (fun N => List.perm_append_comm) (q := 0) rfl rfl rfl rfl rfl (Nat.le_of_ble_eq_true rfl) dL_law_374 (fun v2 N h => ?_)
  obtain ⟨e1, R2⟩ := h
  subst e1
  refine zv_icmp_eq (pc := 377) 1402 g dL_law_377 rfl (fun _ => ?_) (fun q => absurd rfl q)
  exact nx T N R2
set_option maxRecDepth 100000 in
set_option maxHeartbeats 1000000 in
theorem lc_6 (g : zG β 4 ((p, e, room_1, s), (m, #[Value.ref bs], below, meth, c), (lw_Z below #[Value.ref bs] s, (fun q : Nat => s.heap.size ≤ q), nc, ns)) code RL 14 516) (hX : va_X bs L xs s s.heap) (hbl : bs < s.heap.size) (hL : L ≤ 3072) {i : Nat} (hin : ¬ L < i + 6) (nx : ∀ (X2 : XSt) (M2 : MSt), Rel X2 M2 → zV β 4 ((p, e, room_1, s), (m, #[Value.ref bs], below, meth, c), (lw_Z below #[Value.ref bs] s, (fun q : Nat => s.heap.size ≤ q), nc, ns)) (xW β b X2 ++ mW β a M2) 1402 [(0, .ref bs), (1, .ref (b 0)), (2, .ref (a 0)), (3, .int (nI i))] []) {X : XSt} {M : MSt} (R : Rel X M) : zV β 4 ((p, e, room_1, s), (m, #[Value.ref bs], below, meth, c), (lw_Z below #[Value.ref bs] s, (fun q : Nat => s.heap.size ≤ q), nc, ns)) (xW β b X ++ mW β a M) 382 [(0, .ref bs), (1, .ref (b 0)), (2, .ref (a 0)), (3, .int (nI i))] [] := by
  have hbA : ¬ (fun q : Nat => s.heap.size ≤ q) bs := Nat.not_le.mpr hbl
  refine zv_aload_n (pc := 382) g dL_law_382 1 rfl rfl ?_
  refine zv_aload_n (pc := 383) g dL_law_383 0 rfl rfl ?_
  refine zv_iload_n (pc := 384) g dL_law_384 3 rfl rfl ?_
  refine zv_iconst (pc := 385) g dL_law_385 (v := 1) (by decide) ?_
  refine zv_iadd (pc := 386) g dL_law_386 ?_
  refine zv_sld (pc := 387) g hX hbl hbA (law_in hin (j := 1) (by omega) (by omega)) dL_law_387 ?_
  refine zv_aload_n (pc := 388) g dL_law_388 0 rfl rfl ?_
  refine zv_iload_n (pc := 389) g dL_law_389 3 rfl rfl ?_
  refine zv_iconst (pc := 390) g dL_law_390 (v := 2) (by decide) ?_
  refine zv_iadd (pc := 391) g dL_law_391 ?_
  refine zv_sld (pc := 392) g hX hbl hbA (law_in hin (j := 2) (by omega) (by omega)) dL_law_392 ?_
  refine zv_aload_n (pc := 393) g dL_law_393 0 rfl rfl ?_
  refine zv_iload_n (pc := 394) g dL_law_394 3 rfl rfl ?_
  refine zv_iconst (pc := 395) g dL_law_395 (v := 3) (by decide) ?_
  refine zv_iadd (pc := 396) g dL_law_396 ?_
  refine zv_sld (pc := 397) g hX hbl hbA (law_in hin (j := 3) (by omega) (by omega)) dL_law_397 ?_
  refine zv_cVi (pc := 398) g cw_L_40 (ctX4_set (op_set R (xs (Int32.toNatClampNeg (nI i + 1))) (xs (Int32.toNatClampNeg (nI i + 2))) (xs (Int32.toNatClampNeg (nI i + 3))))) (by decide) (by decide) (List.Perm.refl _) (fun T => xW β b T ++ mW β a M) (fun T => List.Perm.refl _) (q := 0) rfl rfl rfl rfl rfl (Nat.le_of_ble_eq_true rfl) dL_law_398 (fun v1 T h => ?_)
  refine zv_aload_n (pc := 401) g dL_law_401 2 rfl rfl ?_
  refine zv_aload_n (pc := 402) g dL_law_402 0 rfl rfl ?_
  refine zv_iload_n (pc := 403) g dL_law_403 3 rfl rfl ?_
  refine zv_iconst (pc := 404) g dL_law_404 (v := 1) (by decide) ?_
  refine zv_iadd (pc := 405) g dL_law_405 ?_
  refine zv_sld (pc := 406) g hX hbl hbA (law_in hin (j := 1) (by omega) (by omega)) dL_law_406 ?_
  refine zv_aload_n (pc := 407) g dL_law_407 0 rfl rfl ?_
  refine zv_iload_n (pc := 408) g dL_law_408 3 rfl rfl ?_
  refine zv_iconst (pc := 409) g dL_law_409 (v := 2) (by decide) ?_
  refine zv_iadd (pc := 410) g dL_law_410 ?_
  refine zv_sld (pc := 411) g hX hbl hbA (law_in hin (j := 2) (by omega) (by omega)) dL_law_411 ?_
  refine zv_aload_n (pc := 412) g dL_law_412 0 rfl rfl ?_
  refine zv_iload_n (pc := 413) g dL_law_413 3 rfl rfl ?_
  refine zv_iconst (pc := 414) g dL_law_414 (v := 3) (by decide) ?_
  refine zv_iadd (pc := 415) g dL_law_415 ?_
  refine zv_sld (pc := 416) g hX hbl hbA (law_in hin (j := 3) (by omega) (by omega)) dL_law_416 ?_
  refine zv_cVi (pc := 417) g cw_L_43 (ctX5_set h) (by decide) (by decide) List.perm_append_comm (fun N => xW β b T ++ mW β a N) (fun N => List.perm_append_comm) (q := 0) rfl rfl rfl rfl rfl (Nat.le_of_ble_eq_true rfl) dL_law_417 (fun v2 N h => ?_)
  obtain ⟨e1, R2⟩ := h
  subst e1
  refine zv_icmp_eq (pc := 420) 1402 g dL_law_420 rfl (fun _ => ?_) (fun q => absurd rfl q)
  exact nx T N R2
set_option maxRecDepth 100000 in
set_option maxHeartbeats 1000000 in
theorem lc_7 (g : zG β 4 ((p, e, room_1, s), (m, #[Value.ref bs], below, meth, c), (lw_Z below #[Value.ref bs] s, (fun q : Nat => s.heap.size ≤ q), nc, ns)) code RL 14 516) (hX : va_X bs L xs s s.heap) (hbl : bs < s.heap.size) (hL : L ≤ 3072) {i : Nat} (hin : ¬ L < i + 6) (nx : ∀ (X2 : XSt) (M2 : MSt), Rel X2 M2 → zV β 4 ((p, e, room_1, s), (m, #[Value.ref bs], below, meth, c), (lw_Z below #[Value.ref bs] s, (fun q : Nat => s.heap.size ≤ q), nc, ns)) (xW β b X2 ++ mW β a M2) 1402 [(0, .ref bs), (1, .ref (b 0)), (2, .ref (a 0)), (3, .int (nI i))] []) {X : XSt} {M : MSt} (R : Rel X M) : zV β 4 ((p, e, room_1, s), (m, #[Value.ref bs], below, meth, c), (lw_Z below #[Value.ref bs] s, (fun q : Nat => s.heap.size ≤ q), nc, ns)) (xW β b X ++ mW β a M) 425 [(0, .ref bs), (1, .ref (b 0)), (2, .ref (a 0)), (3, .int (nI i))] [] := by
  have hbA : ¬ (fun q : Nat => s.heap.size ≤ q) bs := Nat.not_le.mpr hbl
  refine zv_aload_n (pc := 425) g dL_law_425 1 rfl rfl ?_
  refine zv_aload_n (pc := 426) g dL_law_426 0 rfl rfl ?_
  refine zv_iload_n (pc := 427) g dL_law_427 3 rfl rfl ?_
  refine zv_iconst (pc := 428) g dL_law_428 (v := 1) (by decide) ?_
  refine zv_iadd (pc := 429) g dL_law_429 ?_
  refine zv_sld (pc := 430) g hX hbl hbA (law_in hin (j := 1) (by omega) (by omega)) dL_law_430 ?_
  refine zv_aload_n (pc := 431) g dL_law_431 0 rfl rfl ?_
  refine zv_iload_n (pc := 432) g dL_law_432 3 rfl rfl ?_
  refine zv_iconst (pc := 433) g dL_law_433 (v := 2) (by decide) ?_
  refine zv_iadd (pc := 434) g dL_law_434 ?_
  refine zv_sld (pc := 435) g hX hbl hbA (law_in hin (j := 2) (by omega) (by omega)) dL_law_435 ?_
  refine zv_cVi (pc := 436) g cw_L_44 (ctX4_turn (op_turn R (xs (Int32.toNatClampNeg (nI i + 1))) (xs (Int32.toNatClampNeg (nI i + 2))))) (by decide) (by decide) (List.Perm.refl _) (fun T => xW β b T ++ mW β a M) (fun T => List.Perm.refl _) (q := 0) rfl rfl rfl rfl rfl (Nat.le_of_ble_eq_true rfl) dL_law_436 (fun v1 T h => ?_)
  refine zv_aload_n (pc := 439) g dL_law_439 2 rfl rfl ?_
  refine zv_aload_n (pc := 440) g dL_law_440 0 rfl rfl ?_
  refine zv_iload_n (pc := 441) g dL_law_441 3 rfl rfl ?_
  refine zv_iconst (pc := 442) g dL_law_442 (v := 1) (by decide) ?_
  refine zv_iadd (pc := 443) g dL_law_443 ?_
  refine zv_sld (pc := 444) g hX hbl hbA (law_in hin (j := 1) (by omega) (by omega)) dL_law_444 ?_
  refine zv_aload_n (pc := 445) g dL_law_445 0 rfl rfl ?_
  refine zv_iload_n (pc := 446) g dL_law_446 3 rfl rfl ?_
  refine zv_iconst (pc := 447) g dL_law_447 (v := 2) (by decide) ?_
  refine zv_iadd (pc := 448) g dL_law_448 ?_
  refine zv_sld (pc := 449) g hX hbl hbA (law_in hin (j := 2) (by omega) (by omega)) dL_law_449 ?_
  refine zv_cVi (pc := 450) g cw_L_47 (ctX5_turn h) (by decide) (by decide) List.perm_append_comm (fun N => xW β b T ++ mW β a N) (fun N => List.perm_append_comm) (q := 0) rfl rfl rfl rfl rfl (Nat.le_of_ble_eq_true rfl) dL_law_450 (fun v2 N h => ?_)
  obtain ⟨e1, R2⟩ := h
  subst e1
  refine zv_icmp_eq (pc := 453) 1402 g dL_law_453 rfl (fun _ => ?_) (fun q => absurd rfl q)
  exact nx T N R2
set_option maxRecDepth 100000 in
set_option maxHeartbeats 1000000 in
theorem lc_8 (g : zG β 4 ((p, e, room_1, s), (m, #[Value.ref bs], below, meth, c), (lw_Z below #[Value.ref bs] s, (fun q : Nat => s.heap.size ≤ q), nc, ns)) code RL 14 516) (hX : va_X bs L xs s s.heap) (hbl : bs < s.heap.size) (hL : L ≤ 3072) {i : Nat} (hin : ¬ L < i + 6) (nx : ∀ (X2 : XSt) (M2 : MSt), Rel X2 M2 → zV β 4 ((p, e, room_1, s), (m, #[Value.ref bs], below, meth, c), (lw_Z below #[Value.ref bs] s, (fun q : Nat => s.heap.size ≤ q), nc, ns)) (xW β b X2 ++ mW β a M2) 1402 [(0, .ref bs), (1, .ref (b 0)), (2, .ref (a 0)), (3, .int (nI i))] []) {X : XSt} {M : MSt} (R : Rel X M) : zV β 4 ((p, e, room_1, s), (m, #[Value.ref bs], below, meth, c), (lw_Z below #[Value.ref bs] s, (fun q : Nat => s.heap.size ≤ q), nc, ns)) (xW β b X ++ mW β a M) 458 [(0, .ref bs), (1, .ref (b 0)), (2, .ref (a 0)), (3, .int (nI i))] [] := by
  have hbA : ¬ (fun q : Nat => s.heap.size ≤ q) bs := Nat.not_le.mpr hbl
  refine zv_aload_n (pc := 458) g dL_law_458 1 rfl rfl ?_
  refine zv_aload_n (pc := 459) g dL_law_459 0 rfl rfl ?_
  refine zv_iload_n (pc := 460) g dL_law_460 3 rfl rfl ?_
  refine zv_iconst (pc := 461) g dL_law_461 (v := 1) (by decide) ?_
  refine zv_iadd (pc := 462) g dL_law_462 ?_
  refine zv_sld (pc := 463) g hX hbl hbA (law_in hin (j := 1) (by omega) (by omega)) dL_law_463 ?_
  refine zv_aload_n (pc := 464) g dL_law_464 0 rfl rfl ?_
  refine zv_iload_n (pc := 465) g dL_law_465 3 rfl rfl ?_
  refine zv_iconst (pc := 466) g dL_law_466 (v := 2) (by decide) ?_
  refine zv_iadd (pc := 467) g dL_law_467 ?_
  refine zv_sld (pc := 468) g hX hbl hbA (law_in hin (j := 2) (by omega) (by omega)) dL_law_468 ?_
  refine zv_cVi (pc := 469) g cw_L_48 (ctX4_as (op_as R (xs (Int32.toNatClampNeg (nI i + 1))) (xs (Int32.toNatClampNeg (nI i + 2))))) (by decide) (by decide) (List.Perm.refl _) (fun T => xW β b T ++ mW β a M) (fun T => List.Perm.refl _) (q := 0) rfl rfl rfl rfl rfl (Nat.le_of_ble_eq_true rfl) dL_law_469 (fun v1 T h => ?_)
  refine zv_aload_n (pc := 472) g dL_law_472 2 rfl rfl ?_
  refine zv_aload_n (pc := 473) g dL_law_473 0 rfl rfl ?_
  refine zv_iload_n (pc := 474) g dL_law_474 3 rfl rfl ?_
  refine zv_iconst (pc := 475) g dL_law_475 (v := 1) (by decide) ?_
  refine zv_iadd (pc := 476) g dL_law_476 ?_
  refine zv_sld (pc := 477) g hX hbl hbA (law_in hin (j := 1) (by omega) (by omega)) dL_law_477 ?_
  refine zv_aload_n (pc := 478) g dL_law_478 0 rfl rfl ?_
  refine zv_iload_n (pc := 479) g dL_law_479 3 rfl rfl ?_
  refine zv_iconst (pc := 480) g dL_law_480 (v := 2) (by decide) ?_
  refine zv_iadd (pc := 481) g dL_law_481 ?_
  refine zv_sld (pc := 482) g hX hbl hbA (law_in hin (j := 2) (by omega) (by omega)) dL_law_482 ?_
  refine zv_cVi (pc := 483) g cw_L_51 (ctX5_as h) (by decide) (by decide) List.perm_append_comm (fun N => xW β b T ++ mW β a N) (fun N => List.perm_append_comm) (q := 0) rfl rfl rfl rfl rfl (Nat.le_of_ble_eq_true rfl) dL_law_483 (fun v2 N h => ?_)
  obtain ⟨e1, R2⟩ := h
  subst e1
  refine zv_icmp_eq (pc := 486) 1402 g dL_law_486 rfl (fun _ => ?_) (fun q => absurd rfl q)
  exact nx T N R2
set_option maxRecDepth 100000 in
set_option maxHeartbeats 1000000 in
theorem lc_9 (g : zG β 4 ((p, e, room_1, s), (m, #[Value.ref bs], below, meth, c), (lw_Z below #[Value.ref bs] s, (fun q : Nat => s.heap.size ≤ q), nc, ns)) code RL 14 516) (hX : va_X bs L xs s s.heap) (hbl : bs < s.heap.size) (hL : L ≤ 3072) {i : Nat} (hin : ¬ L < i + 6) (nx : ∀ (X2 : XSt) (M2 : MSt), Rel X2 M2 → zV β 4 ((p, e, room_1, s), (m, #[Value.ref bs], below, meth, c), (lw_Z below #[Value.ref bs] s, (fun q : Nat => s.heap.size ≤ q), nc, ns)) (xW β b X2 ++ mW β a M2) 1402 [(0, .ref bs), (1, .ref (b 0)), (2, .ref (a 0)), (3, .int (nI i))] []) {X : XSt} {M : MSt} (R : Rel X M) : zV β 4 ((p, e, room_1, s), (m, #[Value.ref bs], below, meth, c), (lw_Z below #[Value.ref bs] s, (fun q : Nat => s.heap.size ≤ q), nc, ns)) (xW β b X ++ mW β a M) 491 [(0, .ref bs), (1, .ref (b 0)), (2, .ref (a 0)), (3, .int (nI i))] [] := by
  have hbA : ¬ (fun q : Nat => s.heap.size ≤ q) bs := Nat.not_le.mpr hbl
  refine zv_aload_n (pc := 491) g dL_law_491 1 rfl rfl ?_
  refine zv_aload_n (pc := 492) g dL_law_492 0 rfl rfl ?_
  refine zv_iload_n (pc := 493) g dL_law_493 3 rfl rfl ?_
  refine zv_iconst (pc := 494) g dL_law_494 (v := 1) (by decide) ?_
  refine zv_iadd (pc := 495) g dL_law_495 ?_
  refine zv_sld (pc := 496) g hX hbl hbA (law_in hin (j := 1) (by omega) (by omega)) dL_law_496 ?_
  refine zv_aload_n (pc := 497) g dL_law_497 0 rfl rfl ?_
  refine zv_iload_n (pc := 498) g dL_law_498 3 rfl rfl ?_
  refine zv_iconst (pc := 499) g dL_law_499 (v := 2) (by decide) ?_
  refine zv_iadd (pc := 500) g dL_law_500 ?_
  refine zv_sld (pc := 501) g hX hbl hbA (law_in hin (j := 2) (by omega) (by omega)) dL_law_501 ?_
  refine zv_cVi (pc := 502) g cw_L_52 (ctX4_through (op_through R (xs (Int32.toNatClampNeg (nI i + 1))) (xs (Int32.toNatClampNeg (nI i + 2))))) (by decide) (by decide) (List.Perm.refl _) (fun T => xW β b T ++ mW β a M) (fun T => List.Perm.refl _) (q := 0) rfl rfl rfl rfl rfl (Nat.le_of_ble_eq_true rfl) dL_law_502 (fun v1 T h => ?_)
  refine zv_aload_n (pc := 505) g dL_law_505 2 rfl rfl ?_
  refine zv_aload_n (pc := 506) g dL_law_506 0 rfl rfl ?_
  refine zv_iload_n (pc := 507) g dL_law_507 3 rfl rfl ?_
  refine zv_iconst (pc := 508) g dL_law_508 (v := 1) (by decide) ?_
  refine zv_iadd (pc := 509) g dL_law_509 ?_
  refine zv_sld (pc := 510) g hX hbl hbA (law_in hin (j := 1) (by omega) (by omega)) dL_law_510 ?_
  refine zv_aload_n (pc := 511) g dL_law_511 0 rfl rfl ?_
  refine zv_iload_n (pc := 512) g dL_law_512 3 rfl rfl ?_
  refine zv_iconst (pc := 513) g dL_law_513 (v := 2) (by decide) ?_
  refine zv_iadd (pc := 514) g dL_law_514 ?_
  refine zv_sld (pc := 515) g hX hbl hbA (law_in hin (j := 2) (by omega) (by omega)) dL_law_515 ?_
  refine zv_cVi (pc := 516) g cw_L_55 (ctX5_through h) (by decide) (by decide) List.perm_append_comm (fun N => xW β b T ++ mW β a N) (fun N => List.perm_append_comm) (q := 0) rfl rfl rfl rfl rfl (Nat.le_of_ble_eq_true rfl) dL_law_516 (fun v2 N h => ?_)
  obtain ⟨e1, R2⟩ := h
  subst e1
  refine zv_icmp_eq (pc := 519) 1402 g dL_law_519 rfl (fun _ => ?_) (fun q => absurd rfl q)
  exact nx T N R2
set_option maxRecDepth 100000 in
set_option maxHeartbeats 1000000 in
theorem lc_10 (g : zG β 4 ((p, e, room_1, s), (m, #[Value.ref bs], below, meth, c), (lw_Z below #[Value.ref bs] s, (fun q : Nat => s.heap.size ≤ q), nc, ns)) code RL 14 516) (hX : va_X bs L xs s s.heap) (hbl : bs < s.heap.size) (hL : L ≤ 3072) {i : Nat} (hin : ¬ L < i + 6) (nx : ∀ (X2 : XSt) (M2 : MSt), Rel X2 M2 → zV β 4 ((p, e, room_1, s), (m, #[Value.ref bs], below, meth, c), (lw_Z below #[Value.ref bs] s, (fun q : Nat => s.heap.size ≤ q), nc, ns)) (xW β b X2 ++ mW β a M2) 1402 [(0, .ref bs), (1, .ref (b 0)), (2, .ref (a 0)), (3, .int (nI i))] []) {X : XSt} {M : MSt} (R : Rel X M) : zV β 4 ((p, e, room_1, s), (m, #[Value.ref bs], below, meth, c), (lw_Z below #[Value.ref bs] s, (fun q : Nat => s.heap.size ≤ q), nc, ns)) (xW β b X ++ mW β a M) 524 [(0, .ref bs), (1, .ref (b 0)), (2, .ref (a 0)), (3, .int (nI i))] [] := by
  have hbA : ¬ (fun q : Nat => s.heap.size ≤ q) bs := Nat.not_le.mpr hbl
  refine zv_aload_n (pc := 524) g dL_law_524 1 rfl rfl ?_
  refine zv_aload_n (pc := 525) g dL_law_525 0 rfl rfl ?_
  refine zv_iload_n (pc := 526) g dL_law_526 3 rfl rfl ?_
  refine zv_iconst (pc := 527) g dL_law_527 (v := 1) (by decide) ?_
  refine zv_iadd (pc := 528) g dL_law_528 ?_
  refine zv_sld (pc := 529) g hX hbl hbA (law_in hin (j := 1) (by omega) (by omega)) dL_law_529 ?_
  refine zv_cVi (pc := 530) g cw_L_56 (ctX4_wash (op_wash R (xs (Int32.toNatClampNeg (nI i + 1))))) (by decide) (by decide) (List.Perm.refl _) (fun T => xW β b T ++ mW β a M) (fun T => List.Perm.refl _) (q := 0) rfl rfl rfl rfl rfl (Nat.le_of_ble_eq_true rfl) dL_law_530 (fun v1 T h => ?_)
  refine zv_aload_n (pc := 533) g dL_law_533 2 rfl rfl ?_
  refine zv_aload_n (pc := 534) g dL_law_534 0 rfl rfl ?_
  refine zv_iload_n (pc := 535) g dL_law_535 3 rfl rfl ?_
  refine zv_iconst (pc := 536) g dL_law_536 (v := 1) (by decide) ?_
  refine zv_iadd (pc := 537) g dL_law_537 ?_
  refine zv_sld (pc := 538) g hX hbl hbA (law_in hin (j := 1) (by omega) (by omega)) dL_law_538 ?_
  refine zv_cVi (pc := 539) g cw_L_59 (ctX5_wash h) (by decide) (by decide) List.perm_append_comm (fun N => xW β b T ++ mW β a N) (fun N => List.perm_append_comm) (q := 0) rfl rfl rfl rfl rfl (Nat.le_of_ble_eq_true rfl) dL_law_539 (fun v2 N h => ?_)
  obtain ⟨e1, R2⟩ := h
  subst e1
  refine zv_icmp_eq (pc := 542) 1402 g dL_law_542 rfl (fun _ => ?_) (fun q => absurd rfl q)
  exact nx T N R2
set_option maxRecDepth 100000 in
set_option maxHeartbeats 1000000 in
theorem lc_11 (g : zG β 4 ((p, e, room_1, s), (m, #[Value.ref bs], below, meth, c), (lw_Z below #[Value.ref bs] s, (fun q : Nat => s.heap.size ≤ q), nc, ns)) code RL 14 516) (hX : va_X bs L xs s s.heap) (hbl : bs < s.heap.size) (hL : L ≤ 3072) {i : Nat} (hin : ¬ L < i + 6) (nx : ∀ (X2 : XSt) (M2 : MSt), Rel X2 M2 → zV β 4 ((p, e, room_1, s), (m, #[Value.ref bs], below, meth, c), (lw_Z below #[Value.ref bs] s, (fun q : Nat => s.heap.size ≤ q), nc, ns)) (xW β b X2 ++ mW β a M2) 1402 [(0, .ref bs), (1, .ref (b 0)), (2, .ref (a 0)), (3, .int (nI i))] []) {X : XSt} {M : MSt} (R : Rel X M) : zV β 4 ((p, e, room_1, s), (m, #[Value.ref bs], below, meth, c), (lw_Z below #[Value.ref bs] s, (fun q : Nat => s.heap.size ≤ q), nc, ns)) (xW β b X ++ mW β a M) 547 [(0, .ref bs), (1, .ref (b 0)), (2, .ref (a 0)), (3, .int (nI i))] [] := by
  have hbA : ¬ (fun q : Nat => s.heap.size ≤ q) bs := Nat.not_le.mpr hbl
  refine zv_aload_n (pc := 547) g dL_law_547 1 rfl rfl ?_
  refine zv_aload_n (pc := 548) g dL_law_548 0 rfl rfl ?_
  refine zv_iload_n (pc := 549) g dL_law_549 3 rfl rfl ?_
  refine zv_iconst (pc := 550) g dL_law_550 (v := 1) (by decide) ?_
  refine zv_iadd (pc := 551) g dL_law_551 ?_
  refine zv_sld (pc := 552) g hX hbl hbA (law_in hin (j := 1) (by omega) (by omega)) dL_law_552 ?_
  refine zv_cVi (pc := 553) g cw_L_60 (ctX4_shake (op_shake R (xs (Int32.toNatClampNeg (nI i + 1))))) (by decide) (by decide) (List.Perm.refl _) (fun T => xW β b T ++ mW β a M) (fun T => List.Perm.refl _) (q := 0) rfl rfl rfl rfl rfl (Nat.le_of_ble_eq_true rfl) dL_law_553 (fun v1 T h => ?_)
  refine zv_aload_n (pc := 556) g dL_law_556 2 rfl rfl ?_
  refine zv_aload_n (pc := 557) g dL_law_557 0 rfl rfl ?_
  refine zv_iload_n (pc := 558) g dL_law_558 3 rfl rfl ?_
  refine zv_iconst (pc := 559) g dL_law_559 (v := 1) (by decide) ?_
  refine zv_iadd (pc := 560) g dL_law_560 ?_
  refine zv_sld (pc := 561) g hX hbl hbA (law_in hin (j := 1) (by omega) (by omega)) dL_law_561 ?_
  refine zv_cVi (pc := 562) g cw_L_63 (ctX5_shake h) (by decide) (by decide) List.perm_append_comm (fun N => xW β b T ++ mW β a N) (fun N => List.perm_append_comm) (q := 0) rfl rfl rfl rfl rfl (Nat.le_of_ble_eq_true rfl) dL_law_562 (fun v2 N h => ?_)
  obtain ⟨e1, R2⟩ := h
  subst e1
  refine zv_icmp_eq (pc := 565) 1402 g dL_law_565 rfl (fun _ => ?_) (fun q => absurd rfl q)
  exact nx T N R2
set_option maxRecDepth 100000 in
set_option maxHeartbeats 1000000 in
theorem lc_12 (g : zG β 4 ((p, e, room_1, s), (m, #[Value.ref bs], below, meth, c), (lw_Z below #[Value.ref bs] s, (fun q : Nat => s.heap.size ≤ q), nc, ns)) code RL 14 516) (hX : va_X bs L xs s s.heap) (hbl : bs < s.heap.size) (hL : L ≤ 3072) {i : Nat} (hin : ¬ L < i + 6) (nx : ∀ (X2 : XSt) (M2 : MSt), Rel X2 M2 → zV β 4 ((p, e, room_1, s), (m, #[Value.ref bs], below, meth, c), (lw_Z below #[Value.ref bs] s, (fun q : Nat => s.heap.size ≤ q), nc, ns)) (xW β b X2 ++ mW β a M2) 1402 [(0, .ref bs), (1, .ref (b 0)), (2, .ref (a 0)), (3, .int (nI i))] []) {X : XSt} {M : MSt} (R : Rel X M) : zV β 4 ((p, e, room_1, s), (m, #[Value.ref bs], below, meth, c), (lw_Z below #[Value.ref bs] s, (fun q : Nat => s.heap.size ≤ q), nc, ns)) (xW β b X ++ mW β a M) 570 [(0, .ref bs), (1, .ref (b 0)), (2, .ref (a 0)), (3, .int (nI i))] [] := by
  have hbA : ¬ (fun q : Nat => s.heap.size ≤ q) bs := Nat.not_le.mpr hbl
  refine zv_aload_n (pc := 570) g dL_law_570 1 rfl rfl ?_
  refine zv_aload_n (pc := 571) g dL_law_571 0 rfl rfl ?_
  refine zv_iload_n (pc := 572) g dL_law_572 3 rfl rfl ?_
  refine zv_iconst (pc := 573) g dL_law_573 (v := 1) (by decide) ?_
  refine zv_iadd (pc := 574) g dL_law_574 ?_
  refine zv_sld (pc := 575) g hX hbl hbA (law_in hin (j := 1) (by omega) (by omega)) dL_law_575 ?_
  refine zv_cVi (pc := 576) g cw_L_64 (ctX4_days (op_days R (xs (Int32.toNatClampNeg (nI i + 1))))) (by decide) (by decide) (List.Perm.refl _) (fun T => xW β b T ++ mW β a M) (fun T => List.Perm.refl _) (q := 0) rfl rfl rfl rfl rfl (Nat.le_of_ble_eq_true rfl) dL_law_576 (fun v1 T h => ?_)
  refine zv_aload_n (pc := 579) g dL_law_579 2 rfl rfl ?_
  refine zv_aload_n (pc := 580) g dL_law_580 0 rfl rfl ?_
  refine zv_iload_n (pc := 581) g dL_law_581 3 rfl rfl ?_
  refine zv_iconst (pc := 582) g dL_law_582 (v := 1) (by decide) ?_
  refine zv_iadd (pc := 583) g dL_law_583 ?_
  refine zv_sld (pc := 584) g hX hbl hbA (law_in hin (j := 1) (by omega) (by omega)) dL_law_584 ?_
  refine zv_cVi (pc := 585) g cw_L_67 (ctX5_days h) (by decide) (by decide) List.perm_append_comm (fun N => xW β b T ++ mW β a N) (fun N => List.perm_append_comm) (q := 0) rfl rfl rfl rfl rfl (Nat.le_of_ble_eq_true rfl) dL_law_585 (fun v2 N h => ?_)
  obtain ⟨e1, R2⟩ := h
  subst e1
  refine zv_icmp_eq (pc := 588) 1402 g dL_law_588 rfl (fun _ => ?_) (fun q => absurd rfl q)
  exact nx T N R2
set_option maxRecDepth 100000 in
set_option maxHeartbeats 1000000 in
theorem lc_13 (g : zG β 4 ((p, e, room_1, s), (m, #[Value.ref bs], below, meth, c), (lw_Z below #[Value.ref bs] s, (fun q : Nat => s.heap.size ≤ q), nc, ns)) code RL 14 516) (hX : va_X bs L xs s s.heap) (hbl : bs < s.heap.size) (hL : L ≤ 3072) {i : Nat} (hin : ¬ L < i + 6) (nx : ∀ (X2 : XSt) (M2 : MSt), Rel X2 M2 → zV β 4 ((p, e, room_1, s), (m, #[Value.ref bs], below, meth, c), (lw_Z below #[Value.ref bs] s, (fun q : Nat => s.heap.size ≤ q), nc, ns)) (xW β b X2 ++ mW β a M2) 1402 [(0, .ref bs), (1, .ref (b 0)), (2, .ref (a 0)), (3, .int (nI i))] []) {X : XSt} {M : MSt} (R : Rel X M) : zV β 4 ((p, e, room_1, s), (m, #[Value.ref bs], below, meth, c), (lw_Z below #[Value.ref bs] s, (fun q : Nat => s.heap.size ≤ q), nc, ns)) (xW β b X ++ mW β a M) 593 [(0, .ref bs), (1, .ref (b 0)), (2, .ref (a 0)), (3, .int (nI i))] [] := by
  have hbA : ¬ (fun q : Nat => s.heap.size ≤ q) bs := Nat.not_le.mpr hbl
  refine zv_aload_n (pc := 593) g dL_law_593 1 rfl rfl ?_
  refine zv_aload_n (pc := 594) g dL_law_594 0 rfl rfl ?_
  refine zv_iload_n (pc := 595) g dL_law_595 3 rfl rfl ?_
  refine zv_iconst (pc := 596) g dL_law_596 (v := 1) (by decide) ?_
  refine zv_iadd (pc := 597) g dL_law_597 ?_
  refine zv_sld (pc := 598) g hX hbl hbA (law_in hin (j := 1) (by omega) (by omega)) dL_law_598 ?_
  refine zv_aload_n (pc := 599) g dL_law_599 0 rfl rfl ?_
  refine zv_iload_n (pc := 600) g dL_law_600 3 rfl rfl ?_
  refine zv_iconst (pc := 601) g dL_law_601 (v := 2) (by decide) ?_
  refine zv_iadd (pc := 602) g dL_law_602 ?_
  refine zv_sld (pc := 603) g hX hbl hbA (law_in hin (j := 2) (by omega) (by omega)) dL_law_603 ?_
  refine zv_aload_n (pc := 604) g dL_law_604 0 rfl rfl ?_
  refine zv_iload_n (pc := 605) g dL_law_605 3 rfl rfl ?_
  refine zv_iconst (pc := 606) g dL_law_606 (v := 3) (by decide) ?_
  refine zv_iadd (pc := 607) g dL_law_607 ?_
  refine zv_sld (pc := 608) g hX hbl hbA (law_in hin (j := 3) (by omega) (by omega)) dL_law_608 ?_
  refine zv_cVi (pc := 609) g cw_L_68 (ctX4_on (op_on R (xs (Int32.toNatClampNeg (nI i + 1))) (xs (Int32.toNatClampNeg (nI i + 2))) (xs (Int32.toNatClampNeg (nI i + 3))))) (by decide) (by decide) (List.Perm.refl _) (fun T => xW β b T ++ mW β a M) (fun T => List.Perm.refl _) (q := 0) rfl rfl rfl rfl rfl (Nat.le_of_ble_eq_true rfl) dL_law_609 (fun v1 T h => ?_)
  refine zv_aload_n (pc := 612) g dL_law_612 2 rfl rfl ?_
  refine zv_aload_n (pc := 613) g dL_law_613 0 rfl rfl ?_
  refine zv_iload_n (pc := 614) g dL_law_614 3 rfl rfl ?_
  refine zv_iconst (pc := 615) g dL_law_615 (v := 1) (by decide) ?_
  refine zv_iadd (pc := 616) g dL_law_616 ?_
  refine zv_sld (pc := 617) g hX hbl hbA (law_in hin (j := 1) (by omega) (by omega)) dL_law_617 ?_
  refine zv_aload_n (pc := 618) g dL_law_618 0 rfl rfl ?_
  refine zv_iload_n (pc := 619) g dL_law_619 3 rfl rfl ?_
  refine zv_iconst (pc := 620) g dL_law_620 (v := 2) (by decide) ?_
  refine zv_iadd (pc := 621) g dL_law_621 ?_
  refine zv_sld (pc := 622) g hX hbl hbA (law_in hin (j := 2) (by omega) (by omega)) dL_law_622 ?_
  refine zv_aload_n (pc := 623) g dL_law_623 0 rfl rfl ?_
  refine zv_iload_n (pc := 624) g dL_law_624 3 rfl rfl ?_
  refine zv_iconst (pc := 625) g dL_law_625 (v := 3) (by decide) ?_
  refine zv_iadd (pc := 626) g dL_law_626 ?_
  refine zv_sld (pc := 627) g hX hbl hbA (law_in hin (j := 3) (by omega) (by omega)) dL_law_627 ?_
  refine zv_cVi (pc := 628) g cw_L_71 (ctX5_on h) (by decide) (by decide) List.perm_append_comm (fun N => xW β b T ++ mW β a N) (fun N => List.perm_append_comm) (q := 0) rfl rfl rfl rfl rfl (Nat.le_of_ble_eq_true rfl) dL_law_628 (fun v2 N h => ?_)
  obtain ⟨e1, R2⟩ := h
  subst e1
  refine zv_icmp_eq (pc := 631) 1402 g dL_law_631 rfl (fun _ => ?_) (fun q => absurd rfl q)
  exact nx T N R2
set_option maxRecDepth 100000 in
set_option maxHeartbeats 1000000 in
theorem lc_14 (g : zG β 4 ((p, e, room_1, s), (m, #[Value.ref bs], below, meth, c), (lw_Z below #[Value.ref bs] s, (fun q : Nat => s.heap.size ≤ q), nc, ns)) code RL 14 516) (hX : va_X bs L xs s s.heap) (hbl : bs < s.heap.size) (hL : L ≤ 3072) {i : Nat} (hin : ¬ L < i + 6) (nx : ∀ (X2 : XSt) (M2 : MSt), Rel X2 M2 → zV β 4 ((p, e, room_1, s), (m, #[Value.ref bs], below, meth, c), (lw_Z below #[Value.ref bs] s, (fun q : Nat => s.heap.size ≤ q), nc, ns)) (xW β b X2 ++ mW β a M2) 1402 [(0, .ref bs), (1, .ref (b 0)), (2, .ref (a 0)), (3, .int (nI i))] []) {X : XSt} {M : MSt} (R : Rel X M) : zV β 4 ((p, e, room_1, s), (m, #[Value.ref bs], below, meth, c), (lw_Z below #[Value.ref bs] s, (fun q : Nat => s.heap.size ≤ q), nc, ns)) (xW β b X ++ mW β a M) 636 [(0, .ref bs), (1, .ref (b 0)), (2, .ref (a 0)), (3, .int (nI i))] [] := by
  have hbA : ¬ (fun q : Nat => s.heap.size ≤ q) bs := Nat.not_le.mpr hbl
  refine zv_aload_n (pc := 636) g dL_law_636 1 rfl rfl ?_
  refine zv_aload_n (pc := 637) g dL_law_637 0 rfl rfl ?_
  refine zv_iload_n (pc := 638) g dL_law_638 3 rfl rfl ?_
  refine zv_iconst (pc := 639) g dL_law_639 (v := 1) (by decide) ?_
  refine zv_iadd (pc := 640) g dL_law_640 ?_
  refine zv_sld (pc := 641) g hX hbl hbA (law_in hin (j := 1) (by omega) (by omega)) dL_law_641 ?_
  refine zv_aload_n (pc := 642) g dL_law_642 0 rfl rfl ?_
  refine zv_iload_n (pc := 643) g dL_law_643 3 rfl rfl ?_
  refine zv_iconst (pc := 644) g dL_law_644 (v := 2) (by decide) ?_
  refine zv_iadd (pc := 645) g dL_law_645 ?_
  refine zv_sld (pc := 646) g hX hbl hbA (law_in hin (j := 2) (by omega) (by omega)) dL_law_646 ?_
  refine zv_aload_n (pc := 647) g dL_law_647 0 rfl rfl ?_
  refine zv_iload_n (pc := 648) g dL_law_648 3 rfl rfl ?_
  refine zv_iconst (pc := 649) g dL_law_649 (v := 3) (by decide) ?_
  refine zv_iadd (pc := 650) g dL_law_650 ?_
  refine zv_sld (pc := 651) g hX hbl hbA (law_in hin (j := 3) (by omega) (by omega)) dL_law_651 ?_
  refine zv_cVi (pc := 652) g cw_L_72 (ctX4_then (op_then R (xs (Int32.toNatClampNeg (nI i + 1))) (xs (Int32.toNatClampNeg (nI i + 2))) (xs (Int32.toNatClampNeg (nI i + 3))))) (by decide) (by decide) (List.Perm.refl _) (fun T => xW β b T ++ mW β a M) (fun T => List.Perm.refl _) (q := 0) rfl rfl rfl rfl rfl (Nat.le_of_ble_eq_true rfl) dL_law_652 (fun v1 T h => ?_)
  refine zv_aload_n (pc := 655) g dL_law_655 2 rfl rfl ?_
  refine zv_aload_n (pc := 656) g dL_law_656 0 rfl rfl ?_
  refine zv_iload_n (pc := 657) g dL_law_657 3 rfl rfl ?_
  refine zv_iconst (pc := 658) g dL_law_658 (v := 1) (by decide) ?_
  refine zv_iadd (pc := 659) g dL_law_659 ?_
  refine zv_sld (pc := 660) g hX hbl hbA (law_in hin (j := 1) (by omega) (by omega)) dL_law_660 ?_
  refine zv_aload_n (pc := 661) g dL_law_661 0 rfl rfl ?_
  refine zv_iload_n (pc := 662) g dL_law_662 3 rfl rfl ?_
  refine zv_iconst (pc := 663) g dL_law_663 (v := 2) (by decide) ?_
  refine zv_iadd (pc := 664) g dL_law_664 ?_
  refine zv_sld (pc := 665) g hX hbl hbA (law_in hin (j := 2) (by omega) (by omega)) dL_law_665 ?_
  refine zv_aload_n (pc := 666) g dL_law_666 0 rfl rfl ?_
  refine zv_iload_n (pc := 667) g dL_law_667 3 rfl rfl ?_
  refine zv_iconst (pc := 668) g dL_law_668 (v := 3) (by decide) ?_
  refine zv_iadd (pc := 669) g dL_law_669 ?_
  refine zv_sld (pc := 670) g hX hbl hbA (law_in hin (j := 3) (by omega) (by omega)) dL_law_670 ?_
  refine zv_cVi (pc := 671) g cw_L_75 (ctX5_then h) (by decide) (by decide) List.perm_append_comm (fun N => xW β b T ++ mW β a N) (fun N => List.perm_append_comm) (q := 0) rfl rfl rfl rfl rfl (Nat.le_of_ble_eq_true rfl) dL_law_671 (fun v2 N h => ?_)
  obtain ⟨e1, R2⟩ := h
  subst e1
  refine zv_icmp_eq (pc := 674) 1402 g dL_law_674 rfl (fun _ => ?_) (fun q => absurd rfl q)
  exact nx T N R2
set_option maxRecDepth 100000 in
set_option maxHeartbeats 1000000 in
theorem lc_15 (g : zG β 4 ((p, e, room_1, s), (m, #[Value.ref bs], below, meth, c), (lw_Z below #[Value.ref bs] s, (fun q : Nat => s.heap.size ≤ q), nc, ns)) code RL 14 516) (hX : va_X bs L xs s s.heap) (hbl : bs < s.heap.size) (hL : L ≤ 3072) {i : Nat} (hin : ¬ L < i + 6) (nx : ∀ (X2 : XSt) (M2 : MSt), Rel X2 M2 → zV β 4 ((p, e, room_1, s), (m, #[Value.ref bs], below, meth, c), (lw_Z below #[Value.ref bs] s, (fun q : Nat => s.heap.size ≤ q), nc, ns)) (xW β b X2 ++ mW β a M2) 1402 [(0, .ref bs), (1, .ref (b 0)), (2, .ref (a 0)), (3, .int (nI i))] []) {X : XSt} {M : MSt} (R : Rel X M) : zV β 4 ((p, e, room_1, s), (m, #[Value.ref bs], below, meth, c), (lw_Z below #[Value.ref bs] s, (fun q : Nat => s.heap.size ≤ q), nc, ns)) (xW β b X ++ mW β a M) 679 [(0, .ref bs), (1, .ref (b 0)), (2, .ref (a 0)), (3, .int (nI i))] [] := by
  have hbA : ¬ (fun q : Nat => s.heap.size ≤ q) bs := Nat.not_le.mpr hbl
  refine zv_aload_n (pc := 679) g dL_law_679 1 rfl rfl ?_
  refine zv_aload_n (pc := 680) g dL_law_680 0 rfl rfl ?_
  refine zv_iload_n (pc := 681) g dL_law_681 3 rfl rfl ?_
  refine zv_iconst (pc := 682) g dL_law_682 (v := 1) (by decide) ?_
  refine zv_iadd (pc := 683) g dL_law_683 ?_
  refine zv_sld (pc := 684) g hX hbl hbA (law_in hin (j := 1) (by omega) (by omega)) dL_law_684 ?_
  refine zv_cVi (pc := 685) g cw_L_76 (ctX4_clean (op_clean R (xs (Int32.toNatClampNeg (nI i + 1))))) (by decide) (by decide) (List.Perm.refl _) (fun T => xW β b T ++ mW β a M) (fun T => List.Perm.refl _) (q := 0) rfl rfl rfl rfl rfl (Nat.le_of_ble_eq_true rfl) dL_law_685 (fun v1 T h => ?_)
  refine zv_aload_n (pc := 688) g dL_law_688 2 rfl rfl ?_
  refine zv_aload_n (pc := 689) g dL_law_689 0 rfl rfl ?_
  refine zv_iload_n (pc := 690) g dL_law_690 3 rfl rfl ?_
  refine zv_iconst (pc := 691) g dL_law_691 (v := 1) (by decide) ?_
  refine zv_iadd (pc := 692) g dL_law_692 ?_
  refine zv_sld (pc := 693) g hX hbl hbA (law_in hin (j := 1) (by omega) (by omega)) dL_law_693 ?_
  refine zv_cVi (pc := 694) g cw_L_79 (ctX5_clean h) (by decide) (by decide) List.perm_append_comm (fun N => xW β b T ++ mW β a N) (fun N => List.perm_append_comm) (q := 0) rfl rfl rfl rfl rfl (Nat.le_of_ble_eq_true rfl) dL_law_694 (fun v2 N h => ?_)
  obtain ⟨e1, R2⟩ := h
  subst e1
  refine zv_icmp_eq (pc := 697) 1402 g dL_law_697 rfl (fun _ => ?_) (fun q => absurd rfl q)
  exact nx T N R2
set_option maxRecDepth 100000 in
set_option maxHeartbeats 1000000 in
theorem lc_16 (g : zG β 4 ((p, e, room_1, s), (m, #[Value.ref bs], below, meth, c), (lw_Z below #[Value.ref bs] s, (fun q : Nat => s.heap.size ≤ q), nc, ns)) code RL 14 516) (hX : va_X bs L xs s s.heap) (hbl : bs < s.heap.size) (hL : L ≤ 3072) {i : Nat} (hin : ¬ L < i + 6) (nx : ∀ (X2 : XSt) (M2 : MSt), Rel X2 M2 → zV β 4 ((p, e, room_1, s), (m, #[Value.ref bs], below, meth, c), (lw_Z below #[Value.ref bs] s, (fun q : Nat => s.heap.size ≤ q), nc, ns)) (xW β b X2 ++ mW β a M2) 1402 [(0, .ref bs), (1, .ref (b 0)), (2, .ref (a 0)), (3, .int (nI i))] []) {X : XSt} {M : MSt} (R : Rel X M) : zV β 4 ((p, e, room_1, s), (m, #[Value.ref bs], below, meth, c), (lw_Z below #[Value.ref bs] s, (fun q : Nat => s.heap.size ≤ q), nc, ns)) (xW β b X ++ mW β a M) 702 [(0, .ref bs), (1, .ref (b 0)), (2, .ref (a 0)), (3, .int (nI i))] [] := by
  have hbA : ¬ (fun q : Nat => s.heap.size ≤ q) bs := Nat.not_le.mpr hbl
  refine zv_aload_n (pc := 702) g dL_law_702 1 rfl rfl ?_
  refine zv_aload_n (pc := 703) g dL_law_703 0 rfl rfl ?_
  refine zv_iload_n (pc := 704) g dL_law_704 3 rfl rfl ?_
  refine zv_iconst (pc := 705) g dL_law_705 (v := 1) (by decide) ?_
  refine zv_iadd (pc := 706) g dL_law_706 ?_
  refine zv_sld (pc := 707) g hX hbl hbA (law_in hin (j := 1) (by omega) (by omega)) dL_law_707 ?_
  refine zv_aload_n (pc := 708) g dL_law_708 0 rfl rfl ?_
  refine zv_iload_n (pc := 709) g dL_law_709 3 rfl rfl ?_
  refine zv_iconst (pc := 710) g dL_law_710 (v := 2) (by decide) ?_
  refine zv_iadd (pc := 711) g dL_law_711 ?_
  refine zv_sld (pc := 712) g hX hbl hbA (law_in hin (j := 2) (by omega) (by omega)) dL_law_712 ?_
  refine zv_cVi (pc := 713) g cw_L_80 (ctX4_comes (op_comes R (xs (Int32.toNatClampNeg (nI i + 1))) (xs (Int32.toNatClampNeg (nI i + 2))))) (by decide) (by decide) (List.Perm.refl _) (fun T => xW β b T ++ mW β a M) (fun T => List.Perm.refl _) (q := 0) rfl rfl rfl rfl rfl (Nat.le_of_ble_eq_true rfl) dL_law_713 (fun v1 T h => ?_)
  refine zv_aload_n (pc := 716) g dL_law_716 2 rfl rfl ?_
  refine zv_aload_n (pc := 717) g dL_law_717 0 rfl rfl ?_
  refine zv_iload_n (pc := 718) g dL_law_718 3 rfl rfl ?_
  refine zv_iconst (pc := 719) g dL_law_719 (v := 1) (by decide) ?_
  refine zv_iadd (pc := 720) g dL_law_720 ?_
  refine zv_sld (pc := 721) g hX hbl hbA (law_in hin (j := 1) (by omega) (by omega)) dL_law_721 ?_
  refine zv_aload_n (pc := 722) g dL_law_722 0 rfl rfl ?_
  refine zv_iload_n (pc := 723) g dL_law_723 3 rfl rfl ?_
  refine zv_iconst (pc := 724) g dL_law_724 (v := 2) (by decide) ?_
  refine zv_iadd (pc := 725) g dL_law_725 ?_
  refine zv_sld (pc := 726) g hX hbl hbA (law_in hin (j := 2) (by omega) (by omega)) dL_law_726 ?_
  refine zv_cVi (pc := 727) g cw_L_83 (ctX5_comes h) (by decide) (by decide) List.perm_append_comm (fun N => xW β b T ++ mW β a N) (fun N => List.perm_append_comm) (q := 0) rfl rfl rfl rfl rfl (Nat.le_of_ble_eq_true rfl) dL_law_727 (fun v2 N h => ?_)
  obtain ⟨e1, R2⟩ := h
  subst e1
  refine zv_icmp_eq (pc := 730) 1402 g dL_law_730 rfl (fun _ => ?_) (fun q => absurd rfl q)
  exact nx T N R2
set_option maxRecDepth 100000 in
set_option maxHeartbeats 1000000 in
theorem lc_17 (g : zG β 4 ((p, e, room_1, s), (m, #[Value.ref bs], below, meth, c), (lw_Z below #[Value.ref bs] s, (fun q : Nat => s.heap.size ≤ q), nc, ns)) code RL 14 516) (hX : va_X bs L xs s s.heap) (hbl : bs < s.heap.size) (hL : L ≤ 3072) {i : Nat} (hin : ¬ L < i + 6) (nx : ∀ (X2 : XSt) (M2 : MSt), Rel X2 M2 → zV β 4 ((p, e, room_1, s), (m, #[Value.ref bs], below, meth, c), (lw_Z below #[Value.ref bs] s, (fun q : Nat => s.heap.size ≤ q), nc, ns)) (xW β b X2 ++ mW β a M2) 1402 [(0, .ref bs), (1, .ref (b 0)), (2, .ref (a 0)), (3, .int (nI i))] []) {X : XSt} {M : MSt} (R : Rel X M) : zV β 4 ((p, e, room_1, s), (m, #[Value.ref bs], below, meth, c), (lw_Z below #[Value.ref bs] s, (fun q : Nat => s.heap.size ≤ q), nc, ns)) (xW β b X ++ mW β a M) 735 [(0, .ref bs), (1, .ref (b 0)), (2, .ref (a 0)), (3, .int (nI i))] [] := by
  have hbA : ¬ (fun q : Nat => s.heap.size ≤ q) bs := Nat.not_le.mpr hbl
  refine zv_aload_n (pc := 735) g dL_law_735 1 rfl rfl ?_
  refine zv_aload_n (pc := 736) g dL_law_736 0 rfl rfl ?_
  refine zv_iload_n (pc := 737) g dL_law_737 3 rfl rfl ?_
  refine zv_iconst (pc := 738) g dL_law_738 (v := 1) (by decide) ?_
  refine zv_iadd (pc := 739) g dL_law_739 ?_
  refine zv_sld (pc := 740) g hX hbl hbA (law_in hin (j := 1) (by omega) (by omega)) dL_law_740 ?_
  refine zv_aload_n (pc := 741) g dL_law_741 0 rfl rfl ?_
  refine zv_iload_n (pc := 742) g dL_law_742 3 rfl rfl ?_
  refine zv_iconst (pc := 743) g dL_law_743 (v := 2) (by decide) ?_
  refine zv_iadd (pc := 744) g dL_law_744 ?_
  refine zv_sld (pc := 745) g hX hbl hbA (law_in hin (j := 2) (by omega) (by omega)) dL_law_745 ?_
  refine zv_cVi (pc := 746) g cw_L_84 (ctX4_holds (op_holds R (xs (Int32.toNatClampNeg (nI i + 1))) (xs (Int32.toNatClampNeg (nI i + 2))))) (by decide) (by decide) (List.Perm.refl _) (fun T => xW β b T ++ mW β a M) (fun T => List.Perm.refl _) (q := 0) rfl rfl rfl rfl rfl (Nat.le_of_ble_eq_true rfl) dL_law_746 (fun v1 T h => ?_)
  refine zv_aload_n (pc := 749) g dL_law_749 2 rfl rfl ?_
  refine zv_aload_n (pc := 750) g dL_law_750 0 rfl rfl ?_
  refine zv_iload_n (pc := 751) g dL_law_751 3 rfl rfl ?_
  refine zv_iconst (pc := 752) g dL_law_752 (v := 1) (by decide) ?_
  refine zv_iadd (pc := 753) g dL_law_753 ?_
  refine zv_sld (pc := 754) g hX hbl hbA (law_in hin (j := 1) (by omega) (by omega)) dL_law_754 ?_
  refine zv_aload_n (pc := 755) g dL_law_755 0 rfl rfl ?_
  refine zv_iload_n (pc := 756) g dL_law_756 3 rfl rfl ?_
  refine zv_iconst (pc := 757) g dL_law_757 (v := 2) (by decide) ?_
  refine zv_iadd (pc := 758) g dL_law_758 ?_
  refine zv_sld (pc := 759) g hX hbl hbA (law_in hin (j := 2) (by omega) (by omega)) dL_law_759 ?_
  refine zv_cVi (pc := 760) g cw_L_87 (ctX5_holds h) (by decide) (by decide) List.perm_append_comm (fun N => xW β b T ++ mW β a N) (fun N => List.perm_append_comm) (q := 0) rfl rfl rfl rfl rfl (Nat.le_of_ble_eq_true rfl) dL_law_760 (fun v2 N h => ?_)
  obtain ⟨e1, R2⟩ := h
  subst e1
  refine zv_icmp_eq (pc := 763) 1402 g dL_law_763 rfl (fun _ => ?_) (fun q => absurd rfl q)
  exact nx T N R2
set_option maxRecDepth 100000 in
set_option maxHeartbeats 1000000 in
theorem lc_18 (g : zG β 4 ((p, e, room_1, s), (m, #[Value.ref bs], below, meth, c), (lw_Z below #[Value.ref bs] s, (fun q : Nat => s.heap.size ≤ q), nc, ns)) code RL 14 516) (hX : va_X bs L xs s s.heap) (hbl : bs < s.heap.size) (hL : L ≤ 3072) {i : Nat} (hin : ¬ L < i + 6) (nx : ∀ (X2 : XSt) (M2 : MSt), Rel X2 M2 → zV β 4 ((p, e, room_1, s), (m, #[Value.ref bs], below, meth, c), (lw_Z below #[Value.ref bs] s, (fun q : Nat => s.heap.size ≤ q), nc, ns)) (xW β b X2 ++ mW β a M2) 1402 [(0, .ref bs), (1, .ref (b 0)), (2, .ref (a 0)), (3, .int (nI i))] []) {X : XSt} {M : MSt} (R : Rel X M) : zV β 4 ((p, e, room_1, s), (m, #[Value.ref bs], below, meth, c), (lw_Z below #[Value.ref bs] s, (fun q : Nat => s.heap.size ≤ q), nc, ns)) (xW β b X ++ mW β a M) 768 [(0, .ref bs), (1, .ref (b 0)), (2, .ref (a 0)), (3, .int (nI i))] [] := by
  have hbA : ¬ (fun q : Nat => s.heap.size ≤ q) bs := Nat.not_le.mpr hbl
  refine zv_aload_n (pc := 768) g dL_law_768 1 rfl rfl ?_
  refine zv_aload_n (pc := 769) g dL_law_769 0 rfl rfl ?_
  refine zv_iload_n (pc := 770) g dL_law_770 3 rfl rfl ?_
  refine zv_iconst (pc := 771) g dL_law_771 (v := 1) (by decide) ?_
  refine zv_iadd (pc := 772) g dL_law_772 ?_
  refine zv_sld (pc := 773) g hX hbl hbA (law_in hin (j := 1) (by omega) (by omega)) dL_law_773 ?_
  refine zv_aload_n (pc := 774) g dL_law_774 0 rfl rfl ?_
  refine zv_iload_n (pc := 775) g dL_law_775 3 rfl rfl ?_
  refine zv_iconst (pc := 776) g dL_law_776 (v := 2) (by decide) ?_
  refine zv_iadd (pc := 777) g dL_law_777 ?_
  refine zv_sld (pc := 778) g hX hbl hbA (law_in hin (j := 2) (by omega) (by omega)) dL_law_778 ?_
  refine zv_cVi (pc := 779) g cw_L_88 (ctX4_round (op_round R (xs (Int32.toNatClampNeg (nI i + 1))) (xs (Int32.toNatClampNeg (nI i + 2))))) (by decide) (by decide) (List.Perm.refl _) (fun T => xW β b T ++ mW β a M) (fun T => List.Perm.refl _) (q := 0) rfl rfl rfl rfl rfl (Nat.le_of_ble_eq_true rfl) dL_law_779 (fun v1 T h => ?_)
  refine zv_aload_n (pc := 782) g dL_law_782 2 rfl rfl ?_
  refine zv_aload_n (pc := 783) g dL_law_783 0 rfl rfl ?_
  refine zv_iload_n (pc := 784) g dL_law_784 3 rfl rfl ?_
  refine zv_iconst (pc := 785) g dL_law_785 (v := 1) (by decide) ?_
  refine zv_iadd (pc := 786) g dL_law_786 ?_
  refine zv_sld (pc := 787) g hX hbl hbA (law_in hin (j := 1) (by omega) (by omega)) dL_law_787 ?_
  refine zv_aload_n (pc := 788) g dL_law_788 0 rfl rfl ?_
  refine zv_iload_n (pc := 789) g dL_law_789 3 rfl rfl ?_
  refine zv_iconst (pc := 790) g dL_law_790 (v := 2) (by decide) ?_
  refine zv_iadd (pc := 791) g dL_law_791 ?_
  refine zv_sld (pc := 792) g hX hbl hbA (law_in hin (j := 2) (by omega) (by omega)) dL_law_792 ?_
  refine zv_cVi (pc := 793) g cw_L_91 (ctX5_round h) (by decide) (by decide) List.perm_append_comm (fun N => xW β b T ++ mW β a N) (fun N => List.perm_append_comm) (q := 0) rfl rfl rfl rfl rfl (Nat.le_of_ble_eq_true rfl) dL_law_793 (fun v2 N h => ?_)
  obtain ⟨e1, R2⟩ := h
  subst e1
  refine zv_icmp_eq (pc := 796) 1402 g dL_law_796 rfl (fun _ => ?_) (fun q => absurd rfl q)
  exact nx T N R2
set_option maxRecDepth 100000 in
set_option maxHeartbeats 1000000 in
theorem lc_19 (g : zG β 4 ((p, e, room_1, s), (m, #[Value.ref bs], below, meth, c), (lw_Z below #[Value.ref bs] s, (fun q : Nat => s.heap.size ≤ q), nc, ns)) code RL 14 516) (hX : va_X bs L xs s s.heap) (hbl : bs < s.heap.size) (hL : L ≤ 3072) {i : Nat} (hin : ¬ L < i + 6) (nx : ∀ (X2 : XSt) (M2 : MSt), Rel X2 M2 → zV β 4 ((p, e, room_1, s), (m, #[Value.ref bs], below, meth, c), (lw_Z below #[Value.ref bs] s, (fun q : Nat => s.heap.size ≤ q), nc, ns)) (xW β b X2 ++ mW β a M2) 1402 [(0, .ref bs), (1, .ref (b 0)), (2, .ref (a 0)), (3, .int (nI i))] []) {X : XSt} {M : MSt} (R : Rel X M) : zV β 4 ((p, e, room_1, s), (m, #[Value.ref bs], below, meth, c), (lw_Z below #[Value.ref bs] s, (fun q : Nat => s.heap.size ≤ q), nc, ns)) (xW β b X ++ mW β a M) 801 [(0, .ref bs), (1, .ref (b 0)), (2, .ref (a 0)), (3, .int (nI i))] [] := by
  have hbA : ¬ (fun q : Nat => s.heap.size ≤ q) bs := Nat.not_le.mpr hbl
  refine zv_aload_n (pc := 801) g dL_law_801 1 rfl rfl ?_
  refine zv_aload_n (pc := 802) g dL_law_802 0 rfl rfl ?_
  refine zv_iload_n (pc := 803) g dL_law_803 3 rfl rfl ?_
  refine zv_iconst (pc := 804) g dL_law_804 (v := 1) (by decide) ?_
  refine zv_iadd (pc := 805) g dL_law_805 ?_
  refine zv_sld (pc := 806) g hX hbl hbA (law_in hin (j := 1) (by omega) (by omega)) dL_law_806 ?_
  refine zv_aload_n (pc := 807) g dL_law_807 0 rfl rfl ?_
  refine zv_iload_n (pc := 808) g dL_law_808 3 rfl rfl ?_
  refine zv_iconst (pc := 809) g dL_law_809 (v := 2) (by decide) ?_
  refine zv_iadd (pc := 810) g dL_law_810 ?_
  refine zv_sld (pc := 811) g hX hbl hbA (law_in hin (j := 2) (by omega) (by omega)) dL_law_811 ?_
  refine zv_cVi (pc := 812) g cw_L_92 (ctX4_kind (op_kind R (xs (Int32.toNatClampNeg (nI i + 1))) (xs (Int32.toNatClampNeg (nI i + 2))))) (by decide) (by decide) (List.Perm.refl _) (fun T => xW β b T ++ mW β a M) (fun T => List.Perm.refl _) (q := 0) rfl rfl rfl rfl rfl (Nat.le_of_ble_eq_true rfl) dL_law_812 (fun v1 T h => ?_)
  refine zv_aload_n (pc := 815) g dL_law_815 2 rfl rfl ?_
  refine zv_aload_n (pc := 816) g dL_law_816 0 rfl rfl ?_
  refine zv_iload_n (pc := 817) g dL_law_817 3 rfl rfl ?_
  refine zv_iconst (pc := 818) g dL_law_818 (v := 1) (by decide) ?_
  refine zv_iadd (pc := 819) g dL_law_819 ?_
  refine zv_sld (pc := 820) g hX hbl hbA (law_in hin (j := 1) (by omega) (by omega)) dL_law_820 ?_
  refine zv_aload_n (pc := 821) g dL_law_821 0 rfl rfl ?_
  refine zv_iload_n (pc := 822) g dL_law_822 3 rfl rfl ?_
  refine zv_iconst (pc := 823) g dL_law_823 (v := 2) (by decide) ?_
  refine zv_iadd (pc := 824) g dL_law_824 ?_
  refine zv_sld (pc := 825) g hX hbl hbA (law_in hin (j := 2) (by omega) (by omega)) dL_law_825 ?_
  refine zv_cVi (pc := 826) g cw_L_95 (ctX5_kind h) (by decide) (by decide) List.perm_append_comm (fun N => xW β b T ++ mW β a N) (fun N => List.perm_append_comm) (q := 0) rfl rfl rfl rfl rfl (Nat.le_of_ble_eq_true rfl) dL_law_826 (fun v2 N h => ?_)
  obtain ⟨e1, R2⟩ := h
  subst e1
  refine zv_icmp_eq (pc := 829) 1402 g dL_law_829 rfl (fun _ => ?_) (fun q => absurd rfl q)
  exact nx T N R2
set_option maxRecDepth 100000 in
set_option maxHeartbeats 1000000 in
theorem lc_20 (g : zG β 4 ((p, e, room_1, s), (m, #[Value.ref bs], below, meth, c), (lw_Z below #[Value.ref bs] s, (fun q : Nat => s.heap.size ≤ q), nc, ns)) code RL 14 516) (hX : va_X bs L xs s s.heap) (hbl : bs < s.heap.size) (hL : L ≤ 3072) {i : Nat} (hin : ¬ L < i + 6) (nx : ∀ (X2 : XSt) (M2 : MSt), Rel X2 M2 → zV β 4 ((p, e, room_1, s), (m, #[Value.ref bs], below, meth, c), (lw_Z below #[Value.ref bs] s, (fun q : Nat => s.heap.size ≤ q), nc, ns)) (xW β b X2 ++ mW β a M2) 1402 [(0, .ref bs), (1, .ref (b 0)), (2, .ref (a 0)), (3, .int (nI i))] []) {X : XSt} {M : MSt} (R : Rel X M) : zV β 4 ((p, e, room_1, s), (m, #[Value.ref bs], below, meth, c), (lw_Z below #[Value.ref bs] s, (fun q : Nat => s.heap.size ≤ q), nc, ns)) (xW β b X ++ mW β a M) 834 [(0, .ref bs), (1, .ref (b 0)), (2, .ref (a 0)), (3, .int (nI i))] [] := by
  have hbA : ¬ (fun q : Nat => s.heap.size ≤ q) bs := Nat.not_le.mpr hbl
  refine zv_aload_n (pc := 834) g dL_law_834 1 rfl rfl ?_
  refine zv_aload_n (pc := 835) g dL_law_835 0 rfl rfl ?_
  refine zv_iload_n (pc := 836) g dL_law_836 3 rfl rfl ?_
  refine zv_iconst (pc := 837) g dL_law_837 (v := 1) (by decide) ?_
  refine zv_iadd (pc := 838) g dL_law_838 ?_
  refine zv_sld (pc := 839) g hX hbl hbA (law_in hin (j := 1) (by omega) (by omega)) dL_law_839 ?_
  refine zv_aload_n (pc := 840) g dL_law_840 0 rfl rfl ?_
  refine zv_iload_n (pc := 841) g dL_law_841 3 rfl rfl ?_
  refine zv_iconst (pc := 842) g dL_law_842 (v := 2) (by decide) ?_
  refine zv_iadd (pc := 843) g dL_law_843 ?_
  refine zv_sld (pc := 844) g hX hbl hbA (law_in hin (j := 2) (by omega) (by omega)) dL_law_844 ?_
  refine zv_cVi (pc := 845) g cw_L_96 (ctX4_grime (op_grime R (xs (Int32.toNatClampNeg (nI i + 1))) (xs (Int32.toNatClampNeg (nI i + 2))))) (by decide) (by decide) (List.Perm.refl _) (fun T => xW β b T ++ mW β a M) (fun T => List.Perm.refl _) (q := 0) rfl rfl rfl rfl rfl (Nat.le_of_ble_eq_true rfl) dL_law_845 (fun v1 T h => ?_)
  refine zv_aload_n (pc := 848) g dL_law_848 2 rfl rfl ?_
  refine zv_aload_n (pc := 849) g dL_law_849 0 rfl rfl ?_
  refine zv_iload_n (pc := 850) g dL_law_850 3 rfl rfl ?_
  refine zv_iconst (pc := 851) g dL_law_851 (v := 1) (by decide) ?_
  refine zv_iadd (pc := 852) g dL_law_852 ?_
  refine zv_sld (pc := 853) g hX hbl hbA (law_in hin (j := 1) (by omega) (by omega)) dL_law_853 ?_
  refine zv_aload_n (pc := 854) g dL_law_854 0 rfl rfl ?_
  refine zv_iload_n (pc := 855) g dL_law_855 3 rfl rfl ?_
  refine zv_iconst (pc := 856) g dL_law_856 (v := 2) (by decide) ?_
  refine zv_iadd (pc := 857) g dL_law_857 ?_
  refine zv_sld (pc := 858) g hX hbl hbA (law_in hin (j := 2) (by omega) (by omega)) dL_law_858 ?_
  refine zv_cVi (pc := 859) g cw_L_99 (ctX5_grime h) (by decide) (by decide) List.perm_append_comm (fun N => xW β b T ++ mW β a N) (fun N => List.perm_append_comm) (q := 0) rfl rfl rfl rfl rfl (Nat.le_of_ble_eq_true rfl) dL_law_859 (fun v2 N h => ?_)
  obtain ⟨e1, R2⟩ := h
  subst e1
  refine zv_icmp_eq (pc := 862) 1402 g dL_law_862 rfl (fun _ => ?_) (fun q => absurd rfl q)
  exact nx T N R2
set_option maxRecDepth 100000 in
set_option maxHeartbeats 1000000 in
theorem lc_21 (g : zG β 4 ((p, e, room_1, s), (m, #[Value.ref bs], below, meth, c), (lw_Z below #[Value.ref bs] s, (fun q : Nat => s.heap.size ≤ q), nc, ns)) code RL 14 516) (hX : va_X bs L xs s s.heap) (hbl : bs < s.heap.size) (hL : L ≤ 3072) {i : Nat} (hin : ¬ L < i + 6) (nx : ∀ (X2 : XSt) (M2 : MSt), Rel X2 M2 → zV β 4 ((p, e, room_1, s), (m, #[Value.ref bs], below, meth, c), (lw_Z below #[Value.ref bs] s, (fun q : Nat => s.heap.size ≤ q), nc, ns)) (xW β b X2 ++ mW β a M2) 1402 [(0, .ref bs), (1, .ref (b 0)), (2, .ref (a 0)), (3, .int (nI i))] []) {X : XSt} {M : MSt} (R : Rel X M) : zV β 4 ((p, e, room_1, s), (m, #[Value.ref bs], below, meth, c), (lw_Z below #[Value.ref bs] s, (fun q : Nat => s.heap.size ≤ q), nc, ns)) (xW β b X ++ mW β a M) 867 [(0, .ref bs), (1, .ref (b 0)), (2, .ref (a 0)), (3, .int (nI i))] [] := by
  have hbA : ¬ (fun q : Nat => s.heap.size ≤ q) bs := Nat.not_le.mpr hbl
  refine zv_aload_n (pc := 867) g dL_law_867 1 rfl rfl ?_
  refine zv_aload_n (pc := 868) g dL_law_868 0 rfl rfl ?_
  refine zv_iload_n (pc := 869) g dL_law_869 3 rfl rfl ?_
  refine zv_iconst (pc := 870) g dL_law_870 (v := 1) (by decide) ?_
  refine zv_iadd (pc := 871) g dL_law_871 ?_
  refine zv_sld (pc := 872) g hX hbl hbA (law_in hin (j := 1) (by omega) (by omega)) dL_law_872 ?_
  refine zv_cVi (pc := 873) g cw_L_100 (ctX4_best (op_best R (xs (Int32.toNatClampNeg (nI i + 1))))) (by decide) (by decide) (List.Perm.refl _) (fun T => xW β b T ++ mW β a M) (fun T => List.Perm.refl _) (q := 0) rfl rfl rfl rfl rfl (Nat.le_of_ble_eq_true rfl) dL_law_873 (fun v1 T h => ?_)
  refine zv_aload_n (pc := 876) g dL_law_876 2 rfl rfl ?_
  refine zv_aload_n (pc := 877) g dL_law_877 0 rfl rfl ?_
  refine zv_iload_n (pc := 878) g dL_law_878 3 rfl rfl ?_
  refine zv_iconst (pc := 879) g dL_law_879 (v := 1) (by decide) ?_
  refine zv_iadd (pc := 880) g dL_law_880 ?_
  refine zv_sld (pc := 881) g hX hbl hbA (law_in hin (j := 1) (by omega) (by omega)) dL_law_881 ?_
  refine zv_cVi (pc := 882) g cw_L_103 (ctX5_best h) (by decide) (by decide) List.perm_append_comm (fun N => xW β b T ++ mW β a N) (fun N => List.perm_append_comm) (q := 0) rfl rfl rfl rfl rfl (Nat.le_of_ble_eq_true rfl) dL_law_882 (fun v2 N h => ?_)
  obtain ⟨e1, R2⟩ := h
  subst e1
  refine zv_icmp_eq (pc := 885) 1402 g dL_law_885 rfl (fun _ => ?_) (fun q => absurd rfl q)
  exact nx T N R2
set_option maxRecDepth 100000 in
set_option maxHeartbeats 1000000 in
theorem lc_22 (g : zG β 4 ((p, e, room_1, s), (m, #[Value.ref bs], below, meth, c), (lw_Z below #[Value.ref bs] s, (fun q : Nat => s.heap.size ≤ q), nc, ns)) code RL 14 516) (hX : va_X bs L xs s s.heap) (hbl : bs < s.heap.size) (hL : L ≤ 3072) {i : Nat} (hin : ¬ L < i + 6) (nx : ∀ (X2 : XSt) (M2 : MSt), Rel X2 M2 → zV β 4 ((p, e, room_1, s), (m, #[Value.ref bs], below, meth, c), (lw_Z below #[Value.ref bs] s, (fun q : Nat => s.heap.size ≤ q), nc, ns)) (xW β b X2 ++ mW β a M2) 1402 [(0, .ref bs), (1, .ref (b 0)), (2, .ref (a 0)), (3, .int (nI i))] []) {X : XSt} {M : MSt} (R : Rel X M) : zV β 4 ((p, e, room_1, s), (m, #[Value.ref bs], below, meth, c), (lw_Z below #[Value.ref bs] s, (fun q : Nat => s.heap.size ≤ q), nc, ns)) (xW β b X ++ mW β a M) 890 [(0, .ref bs), (1, .ref (b 0)), (2, .ref (a 0)), (3, .int (nI i))] [] := by
  have hbA : ¬ (fun q : Nat => s.heap.size ≤ q) bs := Nat.not_le.mpr hbl
  refine zv_aload_n (pc := 890) g dL_law_890 1 rfl rfl ?_
  refine zv_aload_n (pc := 891) g dL_law_891 0 rfl rfl ?_
  refine zv_iload_n (pc := 892) g dL_law_892 3 rfl rfl ?_
  refine zv_iconst (pc := 893) g dL_law_893 (v := 1) (by decide) ?_
  refine zv_iadd (pc := 894) g dL_law_894 ?_
  refine zv_sld (pc := 895) g hX hbl hbA (law_in hin (j := 1) (by omega) (by omega)) dL_law_895 ?_
  refine zv_aload_n (pc := 896) g dL_law_896 0 rfl rfl ?_
  refine zv_iload_n (pc := 897) g dL_law_897 3 rfl rfl ?_
  refine zv_iconst (pc := 898) g dL_law_898 (v := 2) (by decide) ?_
  refine zv_iadd (pc := 899) g dL_law_899 ?_
  refine zv_sld (pc := 900) g hX hbl hbA (law_in hin (j := 2) (by omega) (by omega)) dL_law_900 ?_
  refine zv_aload_n (pc := 901) g dL_law_901 0 rfl rfl ?_
  refine zv_iload_n (pc := 902) g dL_law_902 3 rfl rfl ?_
  refine zv_iconst (pc := 903) g dL_law_903 (v := 3) (by decide) ?_
  refine zv_iadd (pc := 904) g dL_law_904 ?_
  refine zv_sld (pc := 905) g hX hbl hbA (law_in hin (j := 3) (by omega) (by omega)) dL_law_905 ?_
  refine zv_cVi (pc := 906) g cw_L_104 (ctX4_delay (op_delay R (xs (Int32.toNatClampNeg (nI i + 1))) (xs (Int32.toNatClampNeg (nI i + 2))) (xs (Int32.toNatClampNeg (nI i + 3))))) (by decide) (by decide) (List.Perm.refl _) (fun T => xW β b T ++ mW β a M) (fun T => List.Perm.refl _) (q := 0) rfl rfl rfl rfl rfl (Nat.le_of_ble_eq_true rfl) dL_law_906 (fun v1 T h => ?_)
  refine zv_aload_n (pc := 909) g dL_law_909 2 rfl rfl ?_
  refine zv_aload_n (pc := 910) g dL_law_910 0 rfl rfl ?_
  refine zv_iload_n (pc := 911) g dL_law_911 3 rfl rfl ?_
  refine zv_iconst (pc := 912) g dL_law_912 (v := 1) (by decide) ?_
  refine zv_iadd (pc := 913) g dL_law_913 ?_
  refine zv_sld (pc := 914) g hX hbl hbA (law_in hin (j := 1) (by omega) (by omega)) dL_law_914 ?_
  refine zv_aload_n (pc := 915) g dL_law_915 0 rfl rfl ?_
  refine zv_iload_n (pc := 916) g dL_law_916 3 rfl rfl ?_
  refine zv_iconst (pc := 917) g dL_law_917 (v := 2) (by decide) ?_
  refine zv_iadd (pc := 918) g dL_law_918 ?_
  refine zv_sld (pc := 919) g hX hbl hbA (law_in hin (j := 2) (by omega) (by omega)) dL_law_919 ?_
  refine zv_aload_n (pc := 920) g dL_law_920 0 rfl rfl ?_
  refine zv_iload_n (pc := 921) g dL_law_921 3 rfl rfl ?_
  refine zv_iconst (pc := 922) g dL_law_922 (v := 3) (by decide) ?_
  refine zv_iadd (pc := 923) g dL_law_923 ?_
  refine zv_sld (pc := 924) g hX hbl hbA (law_in hin (j := 3) (by omega) (by omega)) dL_law_924 ?_
  refine zv_cVi (pc := 925) g cw_L_107 (ctX5_delay h) (by decide) (by decide) List.perm_append_comm (fun N => xW β b T ++ mW β a N) (fun N => List.perm_append_comm) (q := 0) rfl rfl rfl rfl rfl (Nat.le_of_ble_eq_true rfl) dL_law_925 (fun v2 N h => ?_)
  obtain ⟨e1, R2⟩ := h
  subst e1
  refine zv_icmp_eq (pc := 928) 1402 g dL_law_928 rfl (fun _ => ?_) (fun q => absurd rfl q)
  exact nx T N R2
set_option maxRecDepth 100000 in
set_option maxHeartbeats 1000000 in
theorem lc_23 (g : zG β 4 ((p, e, room_1, s), (m, #[Value.ref bs], below, meth, c), (lw_Z below #[Value.ref bs] s, (fun q : Nat => s.heap.size ≤ q), nc, ns)) code RL 14 516) (hX : va_X bs L xs s s.heap) (hbl : bs < s.heap.size) (hL : L ≤ 3072) {i : Nat} (hin : ¬ L < i + 6) (nx : ∀ (X2 : XSt) (M2 : MSt), Rel X2 M2 → zV β 4 ((p, e, room_1, s), (m, #[Value.ref bs], below, meth, c), (lw_Z below #[Value.ref bs] s, (fun q : Nat => s.heap.size ≤ q), nc, ns)) (xW β b X2 ++ mW β a M2) 1402 [(0, .ref bs), (1, .ref (b 0)), (2, .ref (a 0)), (3, .int (nI i))] []) {X : XSt} {M : MSt} (R : Rel X M) : zV β 4 ((p, e, room_1, s), (m, #[Value.ref bs], below, meth, c), (lw_Z below #[Value.ref bs] s, (fun q : Nat => s.heap.size ≤ q), nc, ns)) (xW β b X ++ mW β a M) 933 [(0, .ref bs), (1, .ref (b 0)), (2, .ref (a 0)), (3, .int (nI i))] [] := by
  have hbA : ¬ (fun q : Nat => s.heap.size ≤ q) bs := Nat.not_le.mpr hbl
  refine zv_aload_n (pc := 933) g dL_law_933 1 rfl rfl ?_
  refine zv_aload_n (pc := 934) g dL_law_934 0 rfl rfl ?_
  refine zv_iload_n (pc := 935) g dL_law_935 3 rfl rfl ?_
  refine zv_iconst (pc := 936) g dL_law_936 (v := 1) (by decide) ?_
  refine zv_iadd (pc := 937) g dL_law_937 ?_
  refine zv_sld (pc := 938) g hX hbl hbA (law_in hin (j := 1) (by omega) (by omega)) dL_law_938 ?_
  refine zv_cVi (pc := 939) g cw_L_108 (ctX4_bears (op_bears R (xs (Int32.toNatClampNeg (nI i + 1))))) (by decide) (by decide) (List.Perm.refl _) (fun T => xW β b T ++ mW β a M) (fun T => List.Perm.refl _) (q := 0) rfl rfl rfl rfl rfl (Nat.le_of_ble_eq_true rfl) dL_law_939 (fun v1 T h => ?_)
  refine zv_aload_n (pc := 942) g dL_law_942 2 rfl rfl ?_
  refine zv_aload_n (pc := 943) g dL_law_943 0 rfl rfl ?_
  refine zv_iload_n (pc := 944) g dL_law_944 3 rfl rfl ?_
  refine zv_iconst (pc := 945) g dL_law_945 (v := 1) (by decide) ?_
  refine zv_iadd (pc := 946) g dL_law_946 ?_
  refine zv_sld (pc := 947) g hX hbl hbA (law_in hin (j := 1) (by omega) (by omega)) dL_law_947 ?_
  refine zv_cVi (pc := 948) g cw_L_111 (ctX5_bears h) (by decide) (by decide) List.perm_append_comm (fun N => xW β b T ++ mW β a N) (fun N => List.perm_append_comm) (q := 0) rfl rfl rfl rfl rfl (Nat.le_of_ble_eq_true rfl) dL_law_948 (fun v2 N h => ?_)
  obtain ⟨e1, R2⟩ := h
  subst e1
  refine zv_icmp_eq (pc := 951) 1402 g dL_law_951 rfl (fun _ => ?_) (fun q => absurd rfl q)
  exact nx T N R2
set_option maxRecDepth 100000 in
set_option maxHeartbeats 1000000 in
theorem lc_24 (g : zG β 4 ((p, e, room_1, s), (m, #[Value.ref bs], below, meth, c), (lw_Z below #[Value.ref bs] s, (fun q : Nat => s.heap.size ≤ q), nc, ns)) code RL 14 516) (hX : va_X bs L xs s s.heap) (hbl : bs < s.heap.size) (hL : L ≤ 3072) {i : Nat} (hin : ¬ L < i + 6) (nx : ∀ (X2 : XSt) (M2 : MSt), Rel X2 M2 → zV β 4 ((p, e, room_1, s), (m, #[Value.ref bs], below, meth, c), (lw_Z below #[Value.ref bs] s, (fun q : Nat => s.heap.size ≤ q), nc, ns)) (xW β b X2 ++ mW β a M2) 1402 [(0, .ref bs), (1, .ref (b 0)), (2, .ref (a 0)), (3, .int (nI i))] []) {X : XSt} {M : MSt} (R : Rel X M) : zV β 4 ((p, e, room_1, s), (m, #[Value.ref bs], below, meth, c), (lw_Z below #[Value.ref bs] s, (fun q : Nat => s.heap.size ≤ q), nc, ns)) (xW β b X ++ mW β a M) 956 [(0, .ref bs), (1, .ref (b 0)), (2, .ref (a 0)), (3, .int (nI i))] [] := by
  have hbA : ¬ (fun q : Nat => s.heap.size ≤ q) bs := Nat.not_le.mpr hbl
  refine zv_aload_n (pc := 956) g dL_law_956 1 rfl rfl ?_
  refine zv_aload_n (pc := 957) g dL_law_957 0 rfl rfl ?_
  refine zv_iload_n (pc := 958) g dL_law_958 3 rfl rfl ?_
  refine zv_iconst (pc := 959) g dL_law_959 (v := 1) (by decide) ?_
  refine zv_iadd (pc := 960) g dL_law_960 ?_
  refine zv_sld (pc := 961) g hX hbl hbA (law_in hin (j := 1) (by omega) (by omega)) dL_law_961 ?_
  refine zv_cVi (pc := 962) g cw_L_112 (ctX4_fullest (op_fullest R (xs (Int32.toNatClampNeg (nI i + 1))))) (by decide) (by decide) (List.Perm.refl _) (fun T => xW β b T ++ mW β a M) (fun T => List.Perm.refl _) (q := 0) rfl rfl rfl rfl rfl (Nat.le_of_ble_eq_true rfl) dL_law_962 (fun v1 T h => ?_)
  refine zv_aload_n (pc := 965) g dL_law_965 2 rfl rfl ?_
  refine zv_aload_n (pc := 966) g dL_law_966 0 rfl rfl ?_
  refine zv_iload_n (pc := 967) g dL_law_967 3 rfl rfl ?_
  refine zv_iconst (pc := 968) g dL_law_968 (v := 1) (by decide) ?_
  refine zv_iadd (pc := 969) g dL_law_969 ?_
  refine zv_sld (pc := 970) g hX hbl hbA (law_in hin (j := 1) (by omega) (by omega)) dL_law_970 ?_
  refine zv_cVi (pc := 971) g cw_L_115 (ctX5_fullest h) (by decide) (by decide) List.perm_append_comm (fun N => xW β b T ++ mW β a N) (fun N => List.perm_append_comm) (q := 0) rfl rfl rfl rfl rfl (Nat.le_of_ble_eq_true rfl) dL_law_971 (fun v2 N h => ?_)
  obtain ⟨e1, R2⟩ := h
  subst e1
  refine zv_icmp_eq (pc := 974) 1402 g dL_law_974 rfl (fun _ => ?_) (fun q => absurd rfl q)
  exact nx T N R2
set_option maxRecDepth 100000 in
set_option maxHeartbeats 1000000 in
theorem lc_25 (g : zG β 4 ((p, e, room_1, s), (m, #[Value.ref bs], below, meth, c), (lw_Z below #[Value.ref bs] s, (fun q : Nat => s.heap.size ≤ q), nc, ns)) code RL 14 516) (hX : va_X bs L xs s s.heap) (hbl : bs < s.heap.size) (hL : L ≤ 3072) {i : Nat} (hin : ¬ L < i + 6) (nx : ∀ (X2 : XSt) (M2 : MSt), Rel X2 M2 → zV β 4 ((p, e, room_1, s), (m, #[Value.ref bs], below, meth, c), (lw_Z below #[Value.ref bs] s, (fun q : Nat => s.heap.size ≤ q), nc, ns)) (xW β b X2 ++ mW β a M2) 1402 [(0, .ref bs), (1, .ref (b 0)), (2, .ref (a 0)), (3, .int (nI i))] []) {X : XSt} {M : MSt} (R : Rel X M) : zV β 4 ((p, e, room_1, s), (m, #[Value.ref bs], below, meth, c), (lw_Z below #[Value.ref bs] s, (fun q : Nat => s.heap.size ≤ q), nc, ns)) (xW β b X ++ mW β a M) 979 [(0, .ref bs), (1, .ref (b 0)), (2, .ref (a 0)), (3, .int (nI i))] [] := by
  have hbA : ¬ (fun q : Nat => s.heap.size ≤ q) bs := Nat.not_le.mpr hbl
  refine zv_aload_n (pc := 979) g dL_law_979 1 rfl rfl ?_
  refine zv_aload_n (pc := 980) g dL_law_980 0 rfl rfl ?_
  refine zv_iload_n (pc := 981) g dL_law_981 3 rfl rfl ?_
  refine zv_iconst (pc := 982) g dL_law_982 (v := 1) (by decide) ?_
  refine zv_iadd (pc := 983) g dL_law_983 ?_
  refine zv_sld (pc := 984) g hX hbl hbA (law_in hin (j := 1) (by omega) (by omega)) dL_law_984 ?_
  refine zv_aload_n (pc := 985) g dL_law_985 0 rfl rfl ?_
  refine zv_iload_n (pc := 986) g dL_law_986 3 rfl rfl ?_
  refine zv_iconst (pc := 987) g dL_law_987 (v := 2) (by decide) ?_
  refine zv_iadd (pc := 988) g dL_law_988 ?_
  refine zv_sld (pc := 989) g hX hbl hbA (law_in hin (j := 2) (by omega) (by omega)) dL_law_989 ?_
  refine zv_cVi (pc := 990) g cw_L_116 (ctX4_feed (op_feed R (xs (Int32.toNatClampNeg (nI i + 1))) (xs (Int32.toNatClampNeg (nI i + 2))))) (by decide) (by decide) (List.Perm.refl _) (fun T => xW β b T ++ mW β a M) (fun T => List.Perm.refl _) (q := 0) rfl rfl rfl rfl rfl (Nat.le_of_ble_eq_true rfl) dL_law_990 (fun v1 T h => ?_)
  refine zv_aload_n (pc := 993) g dL_law_993 2 rfl rfl ?_
  refine zv_aload_n (pc := 994) g dL_law_994 0 rfl rfl ?_
  refine zv_iload_n (pc := 995) g dL_law_995 3 rfl rfl ?_
  refine zv_iconst (pc := 996) g dL_law_996 (v := 1) (by decide) ?_
  refine zv_iadd (pc := 997) g dL_law_997 ?_
  refine zv_sld (pc := 998) g hX hbl hbA (law_in hin (j := 1) (by omega) (by omega)) dL_law_998 ?_
  refine zv_aload_n (pc := 999) g dL_law_999 0 rfl rfl ?_
  refine zv_iload_n (pc := 1000) g dL_law_1000 3 rfl rfl ?_
  refine zv_iconst (pc := 1001) g dL_law_1001 (v := 2) (by decide) ?_
  refine zv_iadd (pc := 1002) g dL_law_1002 ?_
  refine zv_sld (pc := 1003) g hX hbl hbA (law_in hin (j := 2) (by omega) (by omega)) dL_law_1003 ?_
  refine zv_cVi (pc := 1004) g cw_L_119 (ctX5_feed h) (by decide) (by decide) List.perm_append_comm (fun N => xW β b T ++ mW β a N) (fun N => List.perm_append_comm) (q := 0) rfl rfl rfl rfl rfl (Nat.le_of_ble_eq_true rfl) dL_law_1004 (fun v2 N h => ?_)
  obtain ⟨e1, R2⟩ := h
  subst e1
  refine zv_icmp_eq (pc := 1007) 1402 g dL_law_1007 rfl (fun _ => ?_) (fun q => absurd rfl q)
  exact nx T N R2
set_option maxRecDepth 100000 in
set_option maxHeartbeats 1000000 in
theorem lc_26 (g : zG β 4 ((p, e, room_1, s), (m, #[Value.ref bs], below, meth, c), (lw_Z below #[Value.ref bs] s, (fun q : Nat => s.heap.size ≤ q), nc, ns)) code RL 14 516) (hX : va_X bs L xs s s.heap) (hbl : bs < s.heap.size) (hL : L ≤ 3072) {i : Nat} (hin : ¬ L < i + 6) (nx : ∀ (X2 : XSt) (M2 : MSt), Rel X2 M2 → zV β 4 ((p, e, room_1, s), (m, #[Value.ref bs], below, meth, c), (lw_Z below #[Value.ref bs] s, (fun q : Nat => s.heap.size ≤ q), nc, ns)) (xW β b X2 ++ mW β a M2) 1402 [(0, .ref bs), (1, .ref (b 0)), (2, .ref (a 0)), (3, .int (nI i))] []) {X : XSt} {M : MSt} (R : Rel X M) : zV β 4 ((p, e, room_1, s), (m, #[Value.ref bs], below, meth, c), (lw_Z below #[Value.ref bs] s, (fun q : Nat => s.heap.size ≤ q), nc, ns)) (xW β b X ++ mW β a M) 1012 [(0, .ref bs), (1, .ref (b 0)), (2, .ref (a 0)), (3, .int (nI i))] [] := by
  have hbA : ¬ (fun q : Nat => s.heap.size ≤ q) bs := Nat.not_le.mpr hbl
  refine zv_aload_n (pc := 1012) g dL_law_1012 1 rfl rfl ?_
  refine zv_cVi (pc := 1013) g cw_L_120 (ctX4_wipe (op_wipe R)) (by decide) (by decide) (List.Perm.refl _) (fun T => xW β b T ++ mW β a M) (fun T => List.Perm.refl _) (q := 0) rfl rfl rfl rfl rfl (Nat.le_of_ble_eq_true rfl) dL_law_1013 (fun v1 T h => ?_)
  refine zv_aload_n (pc := 1016) g dL_law_1016 2 rfl rfl ?_
  refine zv_cVi (pc := 1017) g cw_L_124 (ctX5_wipe h) (by decide) (by decide) List.perm_append_comm (fun N => xW β b T ++ mW β a N) (fun N => List.perm_append_comm) (q := 0) rfl rfl rfl rfl rfl (Nat.le_of_ble_eq_true rfl) dL_law_1017 (fun v2 N h => ?_)
  obtain ⟨e1, R2⟩ := h
  subst e1
  refine zv_icmp_eq (pc := 1020) 1402 g dL_law_1020 rfl (fun _ => ?_) (fun q => absurd rfl q)
  exact nx T N R2
set_option maxRecDepth 100000 in
set_option maxHeartbeats 1000000 in
theorem lc_27 (g : zG β 4 ((p, e, room_1, s), (m, #[Value.ref bs], below, meth, c), (lw_Z below #[Value.ref bs] s, (fun q : Nat => s.heap.size ≤ q), nc, ns)) code RL 14 516) (hX : va_X bs L xs s s.heap) (hbl : bs < s.heap.size) (hL : L ≤ 3072) {i : Nat} (hin : ¬ L < i + 6) (nx : ∀ (X2 : XSt) (M2 : MSt), Rel X2 M2 → zV β 4 ((p, e, room_1, s), (m, #[Value.ref bs], below, meth, c), (lw_Z below #[Value.ref bs] s, (fun q : Nat => s.heap.size ≤ q), nc, ns)) (xW β b X2 ++ mW β a M2) 1402 [(0, .ref bs), (1, .ref (b 0)), (2, .ref (a 0)), (3, .int (nI i))] []) {X : XSt} {M : MSt} (R : Rel X M) : zV β 4 ((p, e, room_1, s), (m, #[Value.ref bs], below, meth, c), (lw_Z below #[Value.ref bs] s, (fun q : Nat => s.heap.size ≤ q), nc, ns)) (xW β b X ++ mW β a M) 1025 [(0, .ref bs), (1, .ref (b 0)), (2, .ref (a 0)), (3, .int (nI i))] [] := by
  have hbA : ¬ (fun q : Nat => s.heap.size ≤ q) bs := Nat.not_le.mpr hbl
  refine zv_aload_n (pc := 1025) g dL_law_1025 1 rfl rfl ?_
  refine zv_cVi (pc := 1026) g cw_L_125 (ctX4_house (op_house R)) (by decide) (by decide) (List.Perm.refl _) (fun T => xW β b T ++ mW β a M) (fun T => List.Perm.refl _) (q := 0) rfl rfl rfl rfl rfl (Nat.le_of_ble_eq_true rfl) dL_law_1026 (fun v1 T h => ?_)
  refine zv_aload_n (pc := 1029) g dL_law_1029 2 rfl rfl ?_
  refine zv_cVi (pc := 1030) g cw_L_128 (ctX5_house h) (by decide) (by decide) List.perm_append_comm (fun N => xW β b T ++ mW β a N) (fun N => List.perm_append_comm) (q := 0) rfl rfl rfl rfl rfl (Nat.le_of_ble_eq_true rfl) dL_law_1030 (fun v2 N h => ?_)
  obtain ⟨e1, R2⟩ := h
  subst e1
  refine zv_icmp_eq (pc := 1033) 1402 g dL_law_1033 rfl (fun _ => ?_) (fun q => absurd rfl q)
  exact nx T N R2
set_option maxRecDepth 100000 in
set_option maxHeartbeats 1000000 in
theorem lc_28 (g : zG β 4 ((p, e, room_1, s), (m, #[Value.ref bs], below, meth, c), (lw_Z below #[Value.ref bs] s, (fun q : Nat => s.heap.size ≤ q), nc, ns)) code RL 14 516) (hX : va_X bs L xs s s.heap) (hbl : bs < s.heap.size) (hL : L ≤ 3072) {i : Nat} (hin : ¬ L < i + 6) (nx : ∀ (X2 : XSt) (M2 : MSt), Rel X2 M2 → zV β 4 ((p, e, room_1, s), (m, #[Value.ref bs], below, meth, c), (lw_Z below #[Value.ref bs] s, (fun q : Nat => s.heap.size ≤ q), nc, ns)) (xW β b X2 ++ mW β a M2) 1402 [(0, .ref bs), (1, .ref (b 0)), (2, .ref (a 0)), (3, .int (nI i))] []) {X : XSt} {M : MSt} (R : Rel X M) : zV β 4 ((p, e, room_1, s), (m, #[Value.ref bs], below, meth, c), (lw_Z below #[Value.ref bs] s, (fun q : Nat => s.heap.size ≤ q), nc, ns)) (xW β b X ++ mW β a M) 1038 [(0, .ref bs), (1, .ref (b 0)), (2, .ref (a 0)), (3, .int (nI i))] [] := by
  have hbA : ¬ (fun q : Nat => s.heap.size ≤ q) bs := Nat.not_le.mpr hbl
  refine zv_aload_n (pc := 1038) g dL_law_1038 1 rfl rfl ?_
  refine zv_aload_n (pc := 1039) g dL_law_1039 0 rfl rfl ?_
  refine zv_iload_n (pc := 1040) g dL_law_1040 3 rfl rfl ?_
  refine zv_iconst (pc := 1041) g dL_law_1041 (v := 1) (by decide) ?_
  refine zv_iadd (pc := 1042) g dL_law_1042 ?_
  refine zv_sld (pc := 1043) g hX hbl hbA (law_in hin (j := 1) (by omega) (by omega)) dL_law_1043 ?_
  refine zv_aload_n (pc := 1044) g dL_law_1044 0 rfl rfl ?_
  refine zv_iload_n (pc := 1045) g dL_law_1045 3 rfl rfl ?_
  refine zv_iconst (pc := 1046) g dL_law_1046 (v := 2) (by decide) ?_
  refine zv_iadd (pc := 1047) g dL_law_1047 ?_
  refine zv_sld (pc := 1048) g hX hbl hbA (law_in hin (j := 2) (by omega) (by omega)) dL_law_1048 ?_
  refine zv_aload_n (pc := 1049) g dL_law_1049 0 rfl rfl ?_
  refine zv_iload_n (pc := 1050) g dL_law_1050 3 rfl rfl ?_
  refine zv_iconst (pc := 1051) g dL_law_1051 (v := 3) (by decide) ?_
  refine zv_iadd (pc := 1052) g dL_law_1052 ?_
  refine zv_sld (pc := 1053) g hX hbl hbA (law_in hin (j := 3) (by omega) (by omega)) dL_law_1053 ?_
  refine zv_cVi (pc := 1054) g cw_L_129 (ctX4_sheet (op_sheet R (xs (Int32.toNatClampNeg (nI i + 1))) (xs (Int32.toNatClampNeg (nI i + 2))) (xs (Int32.toNatClampNeg (nI i + 3))))) (by decide) (by decide) (List.Perm.refl _) (fun T => xW β b T ++ mW β a M) (fun T => List.Perm.refl _) (q := 0) rfl rfl rfl rfl rfl (Nat.le_of_ble_eq_true rfl) dL_law_1054 (fun v1 T h => ?_)
  refine zv_aload_n (pc := 1057) g dL_law_1057 2 rfl rfl ?_
  refine zv_aload_n (pc := 1058) g dL_law_1058 0 rfl rfl ?_
  refine zv_iload_n (pc := 1059) g dL_law_1059 3 rfl rfl ?_
  refine zv_iconst (pc := 1060) g dL_law_1060 (v := 1) (by decide) ?_
  refine zv_iadd (pc := 1061) g dL_law_1061 ?_
  refine zv_sld (pc := 1062) g hX hbl hbA (law_in hin (j := 1) (by omega) (by omega)) dL_law_1062 ?_
  refine zv_aload_n (pc := 1063) g dL_law_1063 0 rfl rfl ?_
  refine zv_iload_n (pc := 1064) g dL_law_1064 3 rfl rfl ?_
  refine zv_iconst (pc := 1065) g dL_law_1065 (v := 2) (by decide) ?_
  refine zv_iadd (pc := 1066) g dL_law_1066 ?_
  refine zv_sld (pc := 1067) g hX hbl hbA (law_in hin (j := 2) (by omega) (by omega)) dL_law_1067 ?_
  refine zv_aload_n (pc := 1068) g dL_law_1068 0 rfl rfl ?_
  refine zv_iload_n (pc := 1069) g dL_law_1069 3 rfl rfl ?_
  refine zv_iconst (pc := 1070) g dL_law_1070 (v := 3) (by decide) ?_
  refine zv_iadd (pc := 1071) g dL_law_1071 ?_
  refine zv_sld (pc := 1072) g hX hbl hbA (law_in hin (j := 3) (by omega) (by omega)) dL_law_1072 ?_
  refine zv_cVi (pc := 1073) g cw_L_132 (ctX5_sheet h) (by decide) (by decide) List.perm_append_comm (fun N => xW β b T ++ mW β a N) (fun N => List.perm_append_comm) (q := 0) rfl rfl rfl rfl rfl (Nat.le_of_ble_eq_true rfl) dL_law_1073 (fun v2 N h => ?_)
  obtain ⟨e1, R2⟩ := h
  subst e1
  refine zv_icmp_eq (pc := 1076) 1402 g dL_law_1076 rfl (fun _ => ?_) (fun q => absurd rfl q)
  exact nx T N R2
set_option maxRecDepth 100000 in
set_option maxHeartbeats 1000000 in
theorem lc_29 (g : zG β 4 ((p, e, room_1, s), (m, #[Value.ref bs], below, meth, c), (lw_Z below #[Value.ref bs] s, (fun q : Nat => s.heap.size ≤ q), nc, ns)) code RL 14 516) (hX : va_X bs L xs s s.heap) (hbl : bs < s.heap.size) (hL : L ≤ 3072) {i : Nat} (hin : ¬ L < i + 6) (nx : ∀ (X2 : XSt) (M2 : MSt), Rel X2 M2 → zV β 4 ((p, e, room_1, s), (m, #[Value.ref bs], below, meth, c), (lw_Z below #[Value.ref bs] s, (fun q : Nat => s.heap.size ≤ q), nc, ns)) (xW β b X2 ++ mW β a M2) 1402 [(0, .ref bs), (1, .ref (b 0)), (2, .ref (a 0)), (3, .int (nI i))] []) {X : XSt} {M : MSt} (R : Rel X M) : zV β 4 ((p, e, room_1, s), (m, #[Value.ref bs], below, meth, c), (lw_Z below #[Value.ref bs] s, (fun q : Nat => s.heap.size ≤ q), nc, ns)) (xW β b X ++ mW β a M) 1081 [(0, .ref bs), (1, .ref (b 0)), (2, .ref (a 0)), (3, .int (nI i))] [] := by
  have hbA : ¬ (fun q : Nat => s.heap.size ≤ q) bs := Nat.not_le.mpr hbl
  refine zv_aload_n (pc := 1081) g dL_law_1081 1 rfl rfl ?_
  refine zv_aload_n (pc := 1082) g dL_law_1082 0 rfl rfl ?_
  refine zv_iload_n (pc := 1083) g dL_law_1083 3 rfl rfl ?_
  refine zv_iconst (pc := 1084) g dL_law_1084 (v := 1) (by decide) ?_
  refine zv_iadd (pc := 1085) g dL_law_1085 ?_
  refine zv_sld (pc := 1086) g hX hbl hbA (law_in hin (j := 1) (by omega) (by omega)) dL_law_1086 ?_
  refine zv_aload_n (pc := 1087) g dL_law_1087 0 rfl rfl ?_
  refine zv_iload_n (pc := 1088) g dL_law_1088 3 rfl rfl ?_
  refine zv_iconst (pc := 1089) g dL_law_1089 (v := 2) (by decide) ?_
  refine zv_iadd (pc := 1090) g dL_law_1090 ?_
  refine zv_sld (pc := 1091) g hX hbl hbA (law_in hin (j := 2) (by omega) (by omega)) dL_law_1091 ?_
  refine zv_aload_n (pc := 1092) g dL_law_1092 0 rfl rfl ?_
  refine zv_iload_n (pc := 1093) g dL_law_1093 3 rfl rfl ?_
  refine zv_iconst (pc := 1094) g dL_law_1094 (v := 3) (by decide) ?_
  refine zv_iadd (pc := 1095) g dL_law_1095 ?_
  refine zv_sld (pc := 1096) g hX hbl hbA (law_in hin (j := 3) (by omega) (by omega)) dL_law_1096 ?_
  refine zv_i2l (pc := 1097) g dL_law_1097 ?_
  refine zv_bipush (pc := 1098) g dL_law_1098 (v := 32) (by decide) ?_
  refine zv_lshl (pc := 1100) g dL_law_1100 ?_
  refine zv_aload_n (pc := 1101) g dL_law_1101 0 rfl rfl ?_
  refine zv_iload_n (pc := 1102) g dL_law_1102 3 rfl rfl ?_
  refine zv_iconst (pc := 1103) g dL_law_1103 (v := 4) (by decide) ?_
  refine zv_iadd (pc := 1104) g dL_law_1104 ?_
  refine zv_sld (pc := 1105) g hX hbl hbA (law_in hin (j := 4) (by omega) (by omega)) dL_law_1105 ?_
  refine zv_i2l (pc := 1106) g dL_law_1106 ?_
  refine zv_ldc2 (pc := 1107) g wd_1121 dL_law_1107 ?_
  refine zv_land (pc := 1110) g dL_law_1110 ?_
  refine zv_lor (pc := 1111) g dL_law_1111 ?_
  refine zv_cVl (pc := 1112) g cw_L_135 (ctX4_write (op_write R (xs (Int32.toNatClampNeg (nI i + 1))) (xs (Int32.toNatClampNeg (nI i + 2))) (((Int32.toInt64 (xs (Int32.toNatClampNeg (nI i + 3)))) <<< (Int32.toInt64 32 &&& 63)) ||| ((Int32.toInt64 (xs (Int32.toNatClampNeg (nI i + 4)))) &&& 4294967295)))) (by decide) (by decide) (List.Perm.refl _) (fun T => xW β b T ++ mW β a M) (fun T => List.Perm.refl _) (q := 0) rfl rfl rfl rfl rfl (Nat.le_of_ble_eq_true rfl) dL_law_1112 (fun v1 T h => ?_)
  refine zv_aload_n (pc := 1115) g dL_law_1115 2 rfl rfl ?_
  refine zv_aload_n (pc := 1116) g dL_law_1116 0 rfl rfl ?_
  refine zv_iload_n (pc := 1117) g dL_law_1117 3 rfl rfl ?_
  refine zv_iconst (pc := 1118) g dL_law_1118 (v := 1) (by decide) ?_
  refine zv_iadd (pc := 1119) g dL_law_1119 ?_
  refine zv_sld (pc := 1120) g hX hbl hbA (law_in hin (j := 1) (by omega) (by omega)) dL_law_1120 ?_
  refine zv_aload_n (pc := 1121) g dL_law_1121 0 rfl rfl ?_
  refine zv_iload_n (pc := 1122) g dL_law_1122 3 rfl rfl ?_
  refine zv_iconst (pc := 1123) g dL_law_1123 (v := 2) (by decide) ?_
  refine zv_iadd (pc := 1124) g dL_law_1124 ?_
  refine zv_sld (pc := 1125) g hX hbl hbA (law_in hin (j := 2) (by omega) (by omega)) dL_law_1125 ?_
  refine zv_aload_n (pc := 1126) g dL_law_1126 0 rfl rfl ?_
  refine zv_iload_n (pc := 1127) g dL_law_1127 3 rfl rfl ?_
  refine zv_iconst (pc := 1128) g dL_law_1128 (v := 3) (by decide) ?_
  refine zv_iadd (pc := 1129) g dL_law_1129 ?_
  refine zv_sld (pc := 1130) g hX hbl hbA (law_in hin (j := 3) (by omega) (by omega)) dL_law_1130 ?_
  refine zv_i2l (pc := 1131) g dL_law_1131 ?_
  refine zv_bipush (pc := 1132) g dL_law_1132 (v := 32) (by decide) ?_
  refine zv_lshl (pc := 1134) g dL_law_1134 ?_
  refine zv_aload_n (pc := 1135) g dL_law_1135 0 rfl rfl ?_
  refine zv_iload_n (pc := 1136) g dL_law_1136 3 rfl rfl ?_
  refine zv_iconst (pc := 1137) g dL_law_1137 (v := 4) (by decide) ?_
  refine zv_iadd (pc := 1138) g dL_law_1138 ?_
  refine zv_sld (pc := 1139) g hX hbl hbA (law_in hin (j := 4) (by omega) (by omega)) dL_law_1139 ?_
  refine zv_i2l (pc := 1140) g dL_law_1140 ?_
  refine zv_ldc2 (pc := 1141) g wd_1121 dL_law_1141 ?_
  refine zv_land (pc := 1144) g dL_law_1144 ?_
  refine zv_lor (pc := 1145) g dL_law_1145 ?_
  refine zv_cVl (pc := 1146) g cw_L_139 (ctX5_write h) (by decide) (by decide) List.perm_append_comm (fun N => xW β b T ++ mW β a N) (fun N => List.perm_append_comm) (q := 0) rfl rfl rfl rfl rfl (Nat.le_of_ble_eq_true rfl) dL_law_1146 (fun v2 N h => ?_)
  obtain ⟨e1, R2⟩ := h
  subst e1
  refine zv_lcmp (pc := 1149) g dL_law_1149 ?_
  refine zv_if_eq (pc := 1150) 1402 g dL_law_1150 rfl (fun _ => ?_) (fun q => absurd ((lg_cmp_eq v1 v1).mpr rfl) q)
  exact nx T N R2
set_option maxRecDepth 100000 in
set_option maxHeartbeats 1000000 in
theorem lc_30 (g : zG β 4 ((p, e, room_1, s), (m, #[Value.ref bs], below, meth, c), (lw_Z below #[Value.ref bs] s, (fun q : Nat => s.heap.size ≤ q), nc, ns)) code RL 14 516) (hX : va_X bs L xs s s.heap) (hbl : bs < s.heap.size) (hL : L ≤ 3072) {i : Nat} (hin : ¬ L < i + 6) (nx : ∀ (X2 : XSt) (M2 : MSt), Rel X2 M2 → zV β 4 ((p, e, room_1, s), (m, #[Value.ref bs], below, meth, c), (lw_Z below #[Value.ref bs] s, (fun q : Nat => s.heap.size ≤ q), nc, ns)) (xW β b X2 ++ mW β a M2) 1402 [(0, .ref bs), (1, .ref (b 0)), (2, .ref (a 0)), (3, .int (nI i))] []) {X : XSt} {M : MSt} (R : Rel X M) : zV β 4 ((p, e, room_1, s), (m, #[Value.ref bs], below, meth, c), (lw_Z below #[Value.ref bs] s, (fun q : Nat => s.heap.size ≤ q), nc, ns)) (xW β b X ++ mW β a M) 1155 [(0, .ref bs), (1, .ref (b 0)), (2, .ref (a 0)), (3, .int (nI i))] [] := by
  have hbA : ¬ (fun q : Nat => s.heap.size ≤ q) bs := Nat.not_le.mpr hbl
  refine zv_aload_n (pc := 1155) g dL_law_1155 1 rfl rfl ?_
  refine zv_aload_n (pc := 1156) g dL_law_1156 0 rfl rfl ?_
  refine zv_iload_n (pc := 1157) g dL_law_1157 3 rfl rfl ?_
  refine zv_iconst (pc := 1158) g dL_law_1158 (v := 1) (by decide) ?_
  refine zv_iadd (pc := 1159) g dL_law_1159 ?_
  refine zv_sld (pc := 1160) g hX hbl hbA (law_in hin (j := 1) (by omega) (by omega)) dL_law_1160 ?_
  refine zv_aload_n (pc := 1161) g dL_law_1161 0 rfl rfl ?_
  refine zv_iload_n (pc := 1162) g dL_law_1162 3 rfl rfl ?_
  refine zv_iconst (pc := 1163) g dL_law_1163 (v := 2) (by decide) ?_
  refine zv_iadd (pc := 1164) g dL_law_1164 ?_
  refine zv_sld (pc := 1165) g hX hbl hbA (law_in hin (j := 2) (by omega) (by omega)) dL_law_1165 ?_
  refine zv_aload_n (pc := 1166) g dL_law_1166 0 rfl rfl ?_
  refine zv_iload_n (pc := 1167) g dL_law_1167 3 rfl rfl ?_
  refine zv_iconst (pc := 1168) g dL_law_1168 (v := 3) (by decide) ?_
  refine zv_iadd (pc := 1169) g dL_law_1169 ?_
  refine zv_sld (pc := 1170) g hX hbl hbA (law_in hin (j := 3) (by omega) (by omega)) dL_law_1170 ?_
  refine zv_aload_n (pc := 1171) g dL_law_1171 0 rfl rfl ?_
  refine zv_iload_n (pc := 1172) g dL_law_1172 3 rfl rfl ?_
  refine zv_iconst (pc := 1173) g dL_law_1173 (v := 4) (by decide) ?_
  refine zv_iadd (pc := 1174) g dL_law_1174 ?_
  refine zv_sld (pc := 1175) g hX hbl hbA (law_in hin (j := 4) (by omega) (by omega)) dL_law_1175 ?_
  refine zv_aload_n (pc := 1176) g dL_law_1176 0 rfl rfl ?_
  refine zv_iload_n (pc := 1177) g dL_law_1177 3 rfl rfl ?_
  refine zv_iconst (pc := 1178) g dL_law_1178 (v := 5) (by decide) ?_
  refine zv_iadd (pc := 1179) g dL_law_1179 ?_
  refine zv_sld (pc := 1180) g hX hbl hbA (law_in hin (j := 5) (by omega) (by omega)) dL_law_1180 ?_
  refine zv_cVi (pc := 1181) g cw_L_140 (ctX4_copy (op_copy R (xs (Int32.toNatClampNeg (nI i + 1))) (xs (Int32.toNatClampNeg (nI i + 2))) (xs (Int32.toNatClampNeg (nI i + 3))) (xs (Int32.toNatClampNeg (nI i + 4))) (xs (Int32.toNatClampNeg (nI i + 5))))) (by decide) (by decide) (List.Perm.refl _) (fun T => xW β b T ++ mW β a M) (fun T => List.Perm.refl _) (q := 0) rfl rfl rfl rfl rfl (Nat.le_of_ble_eq_true rfl) dL_law_1181 (fun v1 T h => ?_)
  refine zv_aload_n (pc := 1184) g dL_law_1184 2 rfl rfl ?_
  refine zv_aload_n (pc := 1185) g dL_law_1185 0 rfl rfl ?_
  refine zv_iload_n (pc := 1186) g dL_law_1186 3 rfl rfl ?_
  refine zv_iconst (pc := 1187) g dL_law_1187 (v := 1) (by decide) ?_
  refine zv_iadd (pc := 1188) g dL_law_1188 ?_
  refine zv_sld (pc := 1189) g hX hbl hbA (law_in hin (j := 1) (by omega) (by omega)) dL_law_1189 ?_
  refine zv_aload_n (pc := 1190) g dL_law_1190 0 rfl rfl ?_
  refine zv_iload_n (pc := 1191) g dL_law_1191 3 rfl rfl ?_
  refine zv_iconst (pc := 1192) g dL_law_1192 (v := 2) (by decide) ?_
  refine zv_iadd (pc := 1193) g dL_law_1193 ?_
  refine zv_sld (pc := 1194) g hX hbl hbA (law_in hin (j := 2) (by omega) (by omega)) dL_law_1194 ?_
  refine zv_aload_n (pc := 1195) g dL_law_1195 0 rfl rfl ?_
  refine zv_iload_n (pc := 1196) g dL_law_1196 3 rfl rfl ?_
  refine zv_iconst (pc := 1197) g dL_law_1197 (v := 3) (by decide) ?_
  refine zv_iadd (pc := 1198) g dL_law_1198 ?_
  refine zv_sld (pc := 1199) g hX hbl hbA (law_in hin (j := 3) (by omega) (by omega)) dL_law_1199 ?_
  refine zv_aload_n (pc := 1200) g dL_law_1200 0 rfl rfl ?_
  refine zv_iload_n (pc := 1201) g dL_law_1201 3 rfl rfl ?_
  refine zv_iconst (pc := 1202) g dL_law_1202 (v := 4) (by decide) ?_
  refine zv_iadd (pc := 1203) g dL_law_1203 ?_
  refine zv_sld (pc := 1204) g hX hbl hbA (law_in hin (j := 4) (by omega) (by omega)) dL_law_1204 ?_
  refine zv_aload_n (pc := 1205) g dL_law_1205 0 rfl rfl ?_
  refine zv_iload_n (pc := 1206) g dL_law_1206 3 rfl rfl ?_
  refine zv_iconst (pc := 1207) g dL_law_1207 (v := 5) (by decide) ?_
  refine zv_iadd (pc := 1208) g dL_law_1208 ?_
  refine zv_sld (pc := 1209) g hX hbl hbA (law_in hin (j := 5) (by omega) (by omega)) dL_law_1209 ?_
  refine zv_cVi (pc := 1210) g cw_L_144 (ctX5_copy h) (by decide) (by decide) List.perm_append_comm (fun N => xW β b T ++ mW β a N) (fun N => List.perm_append_comm) (q := 0) rfl rfl rfl rfl rfl (Nat.le_of_ble_eq_true rfl) dL_law_1210 (fun v2 N h => ?_)
  obtain ⟨e1, R2⟩ := h
  subst e1
  refine zv_icmp_eq (pc := 1213) 1402 g dL_law_1213 rfl (fun _ => ?_) (fun q => absurd rfl q)
  exact nx T N R2
set_option maxRecDepth 100000 in
set_option maxHeartbeats 1000000 in
theorem lc_31 (g : zG β 4 ((p, e, room_1, s), (m, #[Value.ref bs], below, meth, c), (lw_Z below #[Value.ref bs] s, (fun q : Nat => s.heap.size ≤ q), nc, ns)) code RL 14 516) (hX : va_X bs L xs s s.heap) (hbl : bs < s.heap.size) (hL : L ≤ 3072) {i : Nat} (hin : ¬ L < i + 6) (nx : ∀ (X2 : XSt) (M2 : MSt), Rel X2 M2 → zV β 4 ((p, e, room_1, s), (m, #[Value.ref bs], below, meth, c), (lw_Z below #[Value.ref bs] s, (fun q : Nat => s.heap.size ≤ q), nc, ns)) (xW β b X2 ++ mW β a M2) 1402 [(0, .ref bs), (1, .ref (b 0)), (2, .ref (a 0)), (3, .int (nI i))] []) {X : XSt} {M : MSt} (R : Rel X M) : zV β 4 ((p, e, room_1, s), (m, #[Value.ref bs], below, meth, c), (lw_Z below #[Value.ref bs] s, (fun q : Nat => s.heap.size ≤ q), nc, ns)) (xW β b X ++ mW β a M) 1218 [(0, .ref bs), (1, .ref (b 0)), (2, .ref (a 0)), (3, .int (nI i))] [] := by
  have hbA : ¬ (fun q : Nat => s.heap.size ≤ q) bs := Nat.not_le.mpr hbl
  refine zv_aload_n (pc := 1218) g dL_law_1218 1 rfl rfl ?_
  refine zv_aload_n (pc := 1219) g dL_law_1219 0 rfl rfl ?_
  refine zv_iload_n (pc := 1220) g dL_law_1220 3 rfl rfl ?_
  refine zv_iconst (pc := 1221) g dL_law_1221 (v := 1) (by decide) ?_
  refine zv_iadd (pc := 1222) g dL_law_1222 ?_
  refine zv_sld (pc := 1223) g hX hbl hbA (law_in hin (j := 1) (by omega) (by omega)) dL_law_1223 ?_
  refine zv_cVi (pc := 1224) g cw_L_145 (ctX4_lays (op_lays R (xs (Int32.toNatClampNeg (nI i + 1))))) (by decide) (by decide) (List.Perm.refl _) (fun T => xW β b T ++ mW β a M) (fun T => List.Perm.refl _) (q := 0) rfl rfl rfl rfl rfl (Nat.le_of_ble_eq_true rfl) dL_law_1224 (fun v1 T h => ?_)
  refine zv_aload_n (pc := 1227) g dL_law_1227 2 rfl rfl ?_
  refine zv_aload_n (pc := 1228) g dL_law_1228 0 rfl rfl ?_
  refine zv_iload_n (pc := 1229) g dL_law_1229 3 rfl rfl ?_
  refine zv_iconst (pc := 1230) g dL_law_1230 (v := 1) (by decide) ?_
  refine zv_iadd (pc := 1231) g dL_law_1231 ?_
  refine zv_sld (pc := 1232) g hX hbl hbA (law_in hin (j := 1) (by omega) (by omega)) dL_law_1232 ?_
  refine zv_cVi (pc := 1233) g cw_L_148 (ctX5_lays h) (by decide) (by decide) List.perm_append_comm (fun N => xW β b T ++ mW β a N) (fun N => List.perm_append_comm) (q := 0) rfl rfl rfl rfl rfl (Nat.le_of_ble_eq_true rfl) dL_law_1233 (fun v2 N h => ?_)
  obtain ⟨e1, R2⟩ := h
  subst e1
  refine zv_icmp_eq (pc := 1236) 1402 g dL_law_1236 rfl (fun _ => ?_) (fun q => absurd rfl q)
  exact nx T N R2
set_option maxRecDepth 100000 in
set_option maxHeartbeats 1000000 in
theorem lc_32 (g : zG β 4 ((p, e, room_1, s), (m, #[Value.ref bs], below, meth, c), (lw_Z below #[Value.ref bs] s, (fun q : Nat => s.heap.size ≤ q), nc, ns)) code RL 14 516) (hX : va_X bs L xs s s.heap) (hbl : bs < s.heap.size) (hL : L ≤ 3072) {i : Nat} (hin : ¬ L < i + 6) (nx : ∀ (X2 : XSt) (M2 : MSt), Rel X2 M2 → zV β 4 ((p, e, room_1, s), (m, #[Value.ref bs], below, meth, c), (lw_Z below #[Value.ref bs] s, (fun q : Nat => s.heap.size ≤ q), nc, ns)) (xW β b X2 ++ mW β a M2) 1402 [(0, .ref bs), (1, .ref (b 0)), (2, .ref (a 0)), (3, .int (nI i))] []) {X : XSt} {M : MSt} (R : Rel X M) : zV β 4 ((p, e, room_1, s), (m, #[Value.ref bs], below, meth, c), (lw_Z below #[Value.ref bs] s, (fun q : Nat => s.heap.size ≤ q), nc, ns)) (xW β b X ++ mW β a M) 1241 [(0, .ref bs), (1, .ref (b 0)), (2, .ref (a 0)), (3, .int (nI i))] [] := by
  have hbA : ¬ (fun q : Nat => s.heap.size ≤ q) bs := Nat.not_le.mpr hbl
  refine zv_aload_n (pc := 1241) g dL_law_1241 1 rfl rfl ?_
  refine zv_aload_n (pc := 1242) g dL_law_1242 0 rfl rfl ?_
  refine zv_iload_n (pc := 1243) g dL_law_1243 3 rfl rfl ?_
  refine zv_iconst (pc := 1244) g dL_law_1244 (v := 1) (by decide) ?_
  refine zv_iadd (pc := 1245) g dL_law_1245 ?_
  refine zv_sld (pc := 1246) g hX hbl hbA (law_in hin (j := 1) (by omega) (by omega)) dL_law_1246 ?_
  refine zv_aload_n (pc := 1247) g dL_law_1247 0 rfl rfl ?_
  refine zv_iload_n (pc := 1248) g dL_law_1248 3 rfl rfl ?_
  refine zv_iconst (pc := 1249) g dL_law_1249 (v := 2) (by decide) ?_
  refine zv_iadd (pc := 1250) g dL_law_1250 ?_
  refine zv_sld (pc := 1251) g hX hbl hbA (law_in hin (j := 2) (by omega) (by omega)) dL_law_1251 ?_
  refine zv_cVi (pc := 1252) g cw_L_149 (ctX4_book (op_book R (xs (Int32.toNatClampNeg (nI i + 1))) (xs (Int32.toNatClampNeg (nI i + 2))))) (by decide) (by decide) (List.Perm.refl _) (fun T => xW β b T ++ mW β a M) (fun T => List.Perm.refl _) (q := 0) rfl rfl rfl rfl rfl (Nat.le_of_ble_eq_true rfl) dL_law_1252 (fun v1 T h => ?_)
  refine zv_aload_n (pc := 1255) g dL_law_1255 2 rfl rfl ?_
  refine zv_aload_n (pc := 1256) g dL_law_1256 0 rfl rfl ?_
  refine zv_iload_n (pc := 1257) g dL_law_1257 3 rfl rfl ?_
  refine zv_iconst (pc := 1258) g dL_law_1258 (v := 1) (by decide) ?_
  refine zv_iadd (pc := 1259) g dL_law_1259 ?_
  refine zv_sld (pc := 1260) g hX hbl hbA (law_in hin (j := 1) (by omega) (by omega)) dL_law_1260 ?_
  refine zv_aload_n (pc := 1261) g dL_law_1261 0 rfl rfl ?_
  refine zv_iload_n (pc := 1262) g dL_law_1262 3 rfl rfl ?_
  refine zv_iconst (pc := 1263) g dL_law_1263 (v := 2) (by decide) ?_
  refine zv_iadd (pc := 1264) g dL_law_1264 ?_
  refine zv_sld (pc := 1265) g hX hbl hbA (law_in hin (j := 2) (by omega) (by omega)) dL_law_1265 ?_
  refine zv_cVi (pc := 1266) g cw_L_152 (ctX5_book h) (by decide) (by decide) List.perm_append_comm (fun N => xW β b T ++ mW β a N) (fun N => List.perm_append_comm) (q := 0) rfl rfl rfl rfl rfl (Nat.le_of_ble_eq_true rfl) dL_law_1266 (fun v2 N h => ?_)
  obtain ⟨e1, R2⟩ := h
  subst e1
  refine zv_icmp_eq (pc := 1269) 1402 g dL_law_1269 rfl (fun _ => ?_) (fun q => absurd rfl q)
  exact nx T N R2
set_option maxRecDepth 100000 in
set_option maxHeartbeats 1000000 in
theorem lc_33 (g : zG β 4 ((p, e, room_1, s), (m, #[Value.ref bs], below, meth, c), (lw_Z below #[Value.ref bs] s, (fun q : Nat => s.heap.size ≤ q), nc, ns)) code RL 14 516) (hX : va_X bs L xs s s.heap) (hbl : bs < s.heap.size) (hL : L ≤ 3072) {i : Nat} (hin : ¬ L < i + 6) (nx : ∀ (X2 : XSt) (M2 : MSt), Rel X2 M2 → zV β 4 ((p, e, room_1, s), (m, #[Value.ref bs], below, meth, c), (lw_Z below #[Value.ref bs] s, (fun q : Nat => s.heap.size ≤ q), nc, ns)) (xW β b X2 ++ mW β a M2) 1402 [(0, .ref bs), (1, .ref (b 0)), (2, .ref (a 0)), (3, .int (nI i))] []) {X : XSt} {M : MSt} (R : Rel X M) : zV β 4 ((p, e, room_1, s), (m, #[Value.ref bs], below, meth, c), (lw_Z below #[Value.ref bs] s, (fun q : Nat => s.heap.size ≤ q), nc, ns)) (xW β b X ++ mW β a M) 1274 [(0, .ref bs), (1, .ref (b 0)), (2, .ref (a 0)), (3, .int (nI i))] [] := by
  have hbA : ¬ (fun q : Nat => s.heap.size ≤ q) bs := Nat.not_le.mpr hbl
  refine zv_aload_n (pc := 1274) g dL_law_1274 1 rfl rfl ?_
  refine zv_aload_n (pc := 1275) g dL_law_1275 0 rfl rfl ?_
  refine zv_iload_n (pc := 1276) g dL_law_1276 3 rfl rfl ?_
  refine zv_iconst (pc := 1277) g dL_law_1277 (v := 1) (by decide) ?_
  refine zv_iadd (pc := 1278) g dL_law_1278 ?_
  refine zv_sld (pc := 1279) g hX hbl hbA (law_in hin (j := 1) (by omega) (by omega)) dL_law_1279 ?_
  refine zv_aload_n (pc := 1280) g dL_law_1280 0 rfl rfl ?_
  refine zv_iload_n (pc := 1281) g dL_law_1281 3 rfl rfl ?_
  refine zv_iconst (pc := 1282) g dL_law_1282 (v := 2) (by decide) ?_
  refine zv_iadd (pc := 1283) g dL_law_1283 ?_
  refine zv_sld (pc := 1284) g hX hbl hbA (law_in hin (j := 2) (by omega) (by omega)) dL_law_1284 ?_
  refine zv_aload_n (pc := 1285) g dL_law_1285 0 rfl rfl ?_
  refine zv_iload_n (pc := 1286) g dL_law_1286 3 rfl rfl ?_
  refine zv_iconst (pc := 1287) g dL_law_1287 (v := 3) (by decide) ?_
  refine zv_iadd (pc := 1288) g dL_law_1288 ?_
  refine zv_sld (pc := 1289) g hX hbl hbA (law_in hin (j := 3) (by omega) (by omega)) dL_law_1289 ?_
  refine zv_cVi (pc := 1290) g cw_L_153 (ctX4_read (op_read R (xs (Int32.toNatClampNeg (nI i + 1))) (xs (Int32.toNatClampNeg (nI i + 2))) (xs (Int32.toNatClampNeg (nI i + 3))))) (by decide) (by decide) (List.Perm.refl _) (fun T => xW β b T ++ mW β a M) (fun T => List.Perm.refl _) (q := 0) rfl rfl rfl rfl rfl (Nat.le_of_ble_eq_true rfl) dL_law_1290 (fun v1 T h => ?_)
  refine zv_aload_n (pc := 1293) g dL_law_1293 2 rfl rfl ?_
  refine zv_aload_n (pc := 1294) g dL_law_1294 0 rfl rfl ?_
  refine zv_iload_n (pc := 1295) g dL_law_1295 3 rfl rfl ?_
  refine zv_iconst (pc := 1296) g dL_law_1296 (v := 1) (by decide) ?_
  refine zv_iadd (pc := 1297) g dL_law_1297 ?_
  refine zv_sld (pc := 1298) g hX hbl hbA (law_in hin (j := 1) (by omega) (by omega)) dL_law_1298 ?_
  refine zv_aload_n (pc := 1299) g dL_law_1299 0 rfl rfl ?_
  refine zv_iload_n (pc := 1300) g dL_law_1300 3 rfl rfl ?_
  refine zv_iconst (pc := 1301) g dL_law_1301 (v := 2) (by decide) ?_
  refine zv_iadd (pc := 1302) g dL_law_1302 ?_
  refine zv_sld (pc := 1303) g hX hbl hbA (law_in hin (j := 2) (by omega) (by omega)) dL_law_1303 ?_
  refine zv_aload_n (pc := 1304) g dL_law_1304 0 rfl rfl ?_
  refine zv_iload_n (pc := 1305) g dL_law_1305 3 rfl rfl ?_
  refine zv_iconst (pc := 1306) g dL_law_1306 (v := 3) (by decide) ?_
  refine zv_iadd (pc := 1307) g dL_law_1307 ?_
  refine zv_sld (pc := 1308) g hX hbl hbA (law_in hin (j := 3) (by omega) (by omega)) dL_law_1308 ?_
  refine zv_cVi (pc := 1309) g cw_L_156 (ctX5_read h) (by decide) (by decide) List.perm_append_comm (fun N => xW β b T ++ mW β a N) (fun N => List.perm_append_comm) (q := 0) rfl rfl rfl rfl rfl (Nat.le_of_ble_eq_true rfl) dL_law_1309 (fun v2 N h => ?_)
  obtain ⟨e1, R2⟩ := h
  subst e1
  refine zv_icmp_eq (pc := 1312) 1402 g dL_law_1312 rfl (fun _ => ?_) (fun q => absurd rfl q)
  exact nx T N R2
set_option maxRecDepth 100000 in
set_option maxHeartbeats 1000000 in
theorem lc_34 (g : zG β 4 ((p, e, room_1, s), (m, #[Value.ref bs], below, meth, c), (lw_Z below #[Value.ref bs] s, (fun q : Nat => s.heap.size ≤ q), nc, ns)) code RL 14 516) (hX : va_X bs L xs s s.heap) (hbl : bs < s.heap.size) (hL : L ≤ 3072) {i : Nat} (hin : ¬ L < i + 6) (nx : ∀ (X2 : XSt) (M2 : MSt), Rel X2 M2 → zV β 4 ((p, e, room_1, s), (m, #[Value.ref bs], below, meth, c), (lw_Z below #[Value.ref bs] s, (fun q : Nat => s.heap.size ≤ q), nc, ns)) (xW β b X2 ++ mW β a M2) 1402 [(0, .ref bs), (1, .ref (b 0)), (2, .ref (a 0)), (3, .int (nI i))] []) {X : XSt} {M : MSt} (R : Rel X M) : zV β 4 ((p, e, room_1, s), (m, #[Value.ref bs], below, meth, c), (lw_Z below #[Value.ref bs] s, (fun q : Nat => s.heap.size ≤ q), nc, ns)) (xW β b X ++ mW β a M) 1317 [(0, .ref bs), (1, .ref (b 0)), (2, .ref (a 0)), (3, .int (nI i))] [] := by
  have hbA : ¬ (fun q : Nat => s.heap.size ≤ q) bs := Nat.not_le.mpr hbl
  refine zv_aload_n (pc := 1317) g dL_law_1317 1 rfl rfl ?_
  refine zv_cVi (pc := 1318) g cw_L_157 (ctX4_image (op_image R)) (by decide) (by decide) (List.Perm.refl _) (fun T => xW β b T ++ mW β a M) (fun T => List.Perm.refl _) (q := 0) rfl rfl rfl rfl rfl (Nat.le_of_ble_eq_true rfl) dL_law_1318 (fun v1 T h => ?_)
  refine zv_aload_n (pc := 1321) g dL_law_1321 2 rfl rfl ?_
  refine zv_cVi (pc := 1322) g cw_L_160 (ctX5_image h) (by decide) (by decide) List.perm_append_comm (fun N => xW β b T ++ mW β a N) (fun N => List.perm_append_comm) (q := 0) rfl rfl rfl rfl rfl (Nat.le_of_ble_eq_true rfl) dL_law_1322 (fun v2 N h => ?_)
  obtain ⟨e1, R2⟩ := h
  subst e1
  refine zv_icmp_eq (pc := 1325) 1402 g dL_law_1325 rfl (fun _ => ?_) (fun q => absurd rfl q)
  exact nx T N R2
set_option maxRecDepth 100000 in
set_option maxHeartbeats 1000000 in
theorem lc_35 (g : zG β 4 ((p, e, room_1, s), (m, #[Value.ref bs], below, meth, c), (lw_Z below #[Value.ref bs] s, (fun q : Nat => s.heap.size ≤ q), nc, ns)) code RL 14 516) (hX : va_X bs L xs s s.heap) (hbl : bs < s.heap.size) (hL : L ≤ 3072) {i : Nat} (hin : ¬ L < i + 6) (nx : ∀ (X2 : XSt) (M2 : MSt), Rel X2 M2 → zV β 4 ((p, e, room_1, s), (m, #[Value.ref bs], below, meth, c), (lw_Z below #[Value.ref bs] s, (fun q : Nat => s.heap.size ≤ q), nc, ns)) (xW β b X2 ++ mW β a M2) 1402 [(0, .ref bs), (1, .ref (b 0)), (2, .ref (a 0)), (3, .int (nI i))] []) {X : XSt} {M : MSt} (R : Rel X M) : zV β 4 ((p, e, room_1, s), (m, #[Value.ref bs], below, meth, c), (lw_Z below #[Value.ref bs] s, (fun q : Nat => s.heap.size ≤ q), nc, ns)) (xW β b X ++ mW β a M) 1330 [(0, .ref bs), (1, .ref (b 0)), (2, .ref (a 0)), (3, .int (nI i))] [] := by
  have hbA : ¬ (fun q : Nat => s.heap.size ≤ q) bs := Nat.not_le.mpr hbl
  refine zv_aload_n (pc := 1330) g dL_law_1330 1 rfl rfl ?_
  refine zv_cVi (pc := 1331) g cw_L_161 (ctX4_undo (op_undo R)) (by decide) (by decide) (List.Perm.refl _) (fun T => xW β b T ++ mW β a M) (fun T => List.Perm.refl _) (q := 0) rfl rfl rfl rfl rfl (Nat.le_of_ble_eq_true rfl) dL_law_1331 (fun v1 T h => ?_)
  refine zv_aload_n (pc := 1334) g dL_law_1334 2 rfl rfl ?_
  refine zv_cVi (pc := 1335) g cw_L_164 (ctX5_undo h) (by decide) (by decide) List.perm_append_comm (fun N => xW β b T ++ mW β a N) (fun N => List.perm_append_comm) (q := 0) rfl rfl rfl rfl rfl (Nat.le_of_ble_eq_true rfl) dL_law_1335 (fun v2 N h => ?_)
  obtain ⟨e1, R2⟩ := h
  subst e1
  refine zv_icmp_eq (pc := 1338) 1402 g dL_law_1338 rfl (fun _ => ?_) (fun q => absurd rfl q)
  exact nx T N R2
set_option maxRecDepth 100000 in
set_option maxHeartbeats 1000000 in
theorem lc_36 (g : zG β 4 ((p, e, room_1, s), (m, #[Value.ref bs], below, meth, c), (lw_Z below #[Value.ref bs] s, (fun q : Nat => s.heap.size ≤ q), nc, ns)) code RL 14 516) (hX : va_X bs L xs s s.heap) (hbl : bs < s.heap.size) (hL : L ≤ 3072) {i : Nat} (hin : ¬ L < i + 6) (nx : ∀ (X2 : XSt) (M2 : MSt), Rel X2 M2 → zV β 4 ((p, e, room_1, s), (m, #[Value.ref bs], below, meth, c), (lw_Z below #[Value.ref bs] s, (fun q : Nat => s.heap.size ≤ q), nc, ns)) (xW β b X2 ++ mW β a M2) 1402 [(0, .ref bs), (1, .ref (b 0)), (2, .ref (a 0)), (3, .int (nI i))] []) {X : XSt} {M : MSt} (R : Rel X M) : zV β 4 ((p, e, room_1, s), (m, #[Value.ref bs], below, meth, c), (lw_Z below #[Value.ref bs] s, (fun q : Nat => s.heap.size ≤ q), nc, ns)) (xW β b X ++ mW β a M) 1343 [(0, .ref bs), (1, .ref (b 0)), (2, .ref (a 0)), (3, .int (nI i))] [] := by
  have hbA : ¬ (fun q : Nat => s.heap.size ≤ q) bs := Nat.not_le.mpr hbl
  refine zv_aload_n (pc := 1343) g dL_law_1343 1 rfl rfl ?_
  refine zv_cVi (pc := 1344) g cw_L_165 (ctX4_tear (op_tear R)) (by decide) (by decide) (List.Perm.refl _) (fun T => xW β b T ++ mW β a M) (fun T => List.Perm.refl _) (q := 0) rfl rfl rfl rfl rfl (Nat.le_of_ble_eq_true rfl) dL_law_1344 (fun v1 T h => ?_)
  refine zv_aload_n (pc := 1347) g dL_law_1347 2 rfl rfl ?_
  refine zv_cVi (pc := 1348) g cw_L_168 (ctX5_tear h) (by decide) (by decide) List.perm_append_comm (fun N => xW β b T ++ mW β a N) (fun N => List.perm_append_comm) (q := 0) rfl rfl rfl rfl rfl (Nat.le_of_ble_eq_true rfl) dL_law_1348 (fun v2 N h => ?_)
  obtain ⟨e1, R2⟩ := h
  subst e1
  refine zv_icmp_eq (pc := 1351) 1402 g dL_law_1351 rfl (fun _ => ?_) (fun q => absurd rfl q)
  exact nx T N R2
set_option maxRecDepth 100000 in
set_option maxHeartbeats 1000000 in
theorem lc_37 (g : zG β 4 ((p, e, room_1, s), (m, #[Value.ref bs], below, meth, c), (lw_Z below #[Value.ref bs] s, (fun q : Nat => s.heap.size ≤ q), nc, ns)) code RL 14 516) (hX : va_X bs L xs s s.heap) (hbl : bs < s.heap.size) (hL : L ≤ 3072) {i : Nat} (hin : ¬ L < i + 6) (nx : ∀ (X2 : XSt) (M2 : MSt), Rel X2 M2 → zV β 4 ((p, e, room_1, s), (m, #[Value.ref bs], below, meth, c), (lw_Z below #[Value.ref bs] s, (fun q : Nat => s.heap.size ≤ q), nc, ns)) (xW β b X2 ++ mW β a M2) 1402 [(0, .ref bs), (1, .ref (b 0)), (2, .ref (a 0)), (3, .int (nI i))] []) {X : XSt} {M : MSt} (R : Rel X M) : zV β 4 ((p, e, room_1, s), (m, #[Value.ref bs], below, meth, c), (lw_Z below #[Value.ref bs] s, (fun q : Nat => s.heap.size ≤ q), nc, ns)) (xW β b X ++ mW β a M) 1356 [(0, .ref bs), (1, .ref (b 0)), (2, .ref (a 0)), (3, .int (nI i))] [] := by
  have hbA : ¬ (fun q : Nat => s.heap.size ≤ q) bs := Nat.not_le.mpr hbl
  refine zv_aload_n (pc := 1356) g dL_law_1356 1 rfl rfl ?_
  refine zv_aload_n (pc := 1357) g dL_law_1357 0 rfl rfl ?_
  refine zv_iload_n (pc := 1358) g dL_law_1358 3 rfl rfl ?_
  refine zv_iconst (pc := 1359) g dL_law_1359 (v := 1) (by decide) ?_
  refine zv_iadd (pc := 1360) g dL_law_1360 ?_
  refine zv_sld (pc := 1361) g hX hbl hbA (law_in hin (j := 1) (by omega) (by omega)) dL_law_1361 ?_
  refine zv_cVi (pc := 1362) g cw_L_169 (ctX4_count (op_count R (xs (Int32.toNatClampNeg (nI i + 1))))) (by decide) (by decide) (List.Perm.refl _) (fun T => xW β b T ++ mW β a M) (fun T => List.Perm.refl _) (q := 0) rfl rfl rfl rfl rfl (Nat.le_of_ble_eq_true rfl) dL_law_1362 (fun v1 T h => ?_)
  refine zv_aload_n (pc := 1365) g dL_law_1365 2 rfl rfl ?_
  refine zv_aload_n (pc := 1366) g dL_law_1366 0 rfl rfl ?_
  refine zv_iload_n (pc := 1367) g dL_law_1367 3 rfl rfl ?_
  refine zv_iconst (pc := 1368) g dL_law_1368 (v := 1) (by decide) ?_
  refine zv_iadd (pc := 1369) g dL_law_1369 ?_
  refine zv_sld (pc := 1370) g hX hbl hbA (law_in hin (j := 1) (by omega) (by omega)) dL_law_1370 ?_
  refine zv_cVi (pc := 1371) g cw_L_172 (ctX5_count h) (by decide) (by decide) List.perm_append_comm (fun N => xW β b T ++ mW β a N) (fun N => List.perm_append_comm) (q := 0) rfl rfl rfl rfl rfl (Nat.le_of_ble_eq_true rfl) dL_law_1371 (fun v2 N h => ?_)
  obtain ⟨e1, R2⟩ := h
  subst e1
  refine zv_icmp_eq (pc := 1374) 1402 g dL_law_1374 rfl (fun _ => ?_) (fun q => absurd rfl q)
  exact nx T N R2
set_option maxRecDepth 100000 in
set_option maxHeartbeats 1000000 in
theorem lc_38 (g : zG β 4 ((p, e, room_1, s), (m, #[Value.ref bs], below, meth, c), (lw_Z below #[Value.ref bs] s, (fun q : Nat => s.heap.size ≤ q), nc, ns)) code RL 14 516) (hX : va_X bs L xs s s.heap) (hbl : bs < s.heap.size) (hL : L ≤ 3072) {i : Nat} (hin : ¬ L < i + 6) (nx : ∀ (X2 : XSt) (M2 : MSt), Rel X2 M2 → zV β 4 ((p, e, room_1, s), (m, #[Value.ref bs], below, meth, c), (lw_Z below #[Value.ref bs] s, (fun q : Nat => s.heap.size ≤ q), nc, ns)) (xW β b X2 ++ mW β a M2) 1402 [(0, .ref bs), (1, .ref (b 0)), (2, .ref (a 0)), (3, .int (nI i))] []) {X : XSt} {M : MSt} (R : Rel X M) : zV β 4 ((p, e, room_1, s), (m, #[Value.ref bs], below, meth, c), (lw_Z below #[Value.ref bs] s, (fun q : Nat => s.heap.size ≤ q), nc, ns)) (xW β b X ++ mW β a M) 1379 [(0, .ref bs), (1, .ref (b 0)), (2, .ref (a 0)), (3, .int (nI i))] [] := by
  have hbA : ¬ (fun q : Nat => s.heap.size ≤ q) bs := Nat.not_le.mpr hbl
  refine zv_aload_n (pc := 1379) g dL_law_1379 1 rfl rfl ?_
  refine zv_aload_n (pc := 1380) g dL_law_1380 0 rfl rfl ?_
  refine zv_iload_n (pc := 1381) g dL_law_1381 3 rfl rfl ?_
  refine zv_iconst (pc := 1382) g dL_law_1382 (v := 1) (by decide) ?_
  refine zv_iadd (pc := 1383) g dL_law_1383 ?_
  refine zv_sld (pc := 1384) g hX hbl hbA (law_in hin (j := 1) (by omega) (by omega)) dL_law_1384 ?_
  refine zv_cVi (pc := 1385) g cw_L_173 (ctX4_status (op_status R (xs (Int32.toNatClampNeg (nI i + 1))))) (by decide) (by decide) (List.Perm.refl _) (fun T => xW β b T ++ mW β a M) (fun T => List.Perm.refl _) (q := 0) rfl rfl rfl rfl rfl (Nat.le_of_ble_eq_true rfl) dL_law_1385 (fun v1 T h => ?_)
  refine zv_aload_n (pc := 1388) g dL_law_1388 2 rfl rfl ?_
  refine zv_aload_n (pc := 1389) g dL_law_1389 0 rfl rfl ?_
  refine zv_iload_n (pc := 1390) g dL_law_1390 3 rfl rfl ?_
  refine zv_iconst (pc := 1391) g dL_law_1391 (v := 1) (by decide) ?_
  refine zv_iadd (pc := 1392) g dL_law_1392 ?_
  refine zv_sld (pc := 1393) g hX hbl hbA (law_in hin (j := 1) (by omega) (by omega)) dL_law_1393 ?_
  refine zv_cVi (pc := 1394) g cw_L_176 (ctX5_status h) (by decide) (by decide) List.perm_append_comm (fun N => xW β b T ++ mW β a N) (fun N => List.perm_append_comm) (q := 0) rfl rfl rfl rfl rfl (Nat.le_of_ble_eq_true rfl) dL_law_1394 (fun v2 N h => ?_)
  obtain ⟨e1, R2⟩ := h
  subst e1
  refine zv_icmp_eq (pc := 1397) 1402 g dL_law_1397 rfl (fun _ => ?_) (fun q => absurd rfl q)
  exact nx T N R2
set_option maxRecDepth 100000 in
set_option maxHeartbeats 4000000 in
theorem law_loop (g : zG β 4 ((p, e, room_1, s), (m, #[Value.ref bs], below, meth, c), (lw_Z below #[Value.ref bs] s, (fun q : Nat => s.heap.size ≤ q), nc, ns)) code RL 14 516) (hX : va_X bs L xs s s.heap) (hbl : bs < s.heap.size) (hL : L ≤ 3072) (hend : ∀ (X : XSt) (M : MSt) (i : Nat), zV β 4 ((p, e, room_1, s), (m, #[Value.ref bs], below, meth, c), (lw_Z below #[Value.ref bs] s, (fun q : Nat => s.heap.size ≤ q), nc, ns)) (xW β b X ++ mW β a M) 1408 [(0, .ref bs), (1, .ref (b 0)), (2, .ref (a 0)), (3, .int (nI i))] []) : ∀ (k i : Nat) (X : XSt) (M : MSt), Rel X M → i < L + 6 → L < i + k → zV β 4 ((p, e, room_1, s), (m, #[Value.ref bs], below, meth, c), (lw_Z below #[Value.ref bs] s, (fun q : Nat => s.heap.size ≤ q), nc, ns)) (xW β b X ++ mW β a M) 18 [(0, .ref bs), (1, .ref (b 0)), (2, .ref (a 0)), (3, .int (nI i))] [] := by
  have hbA : ¬ (fun q : Nat => s.heap.size ≤ q) bs := Nat.not_le.mpr hbl
  intro k
  induction k with
  | zero =>
    intro i X M R hi hk
    refine zv_iload_n (pc := 18) g dL_law_18 3 rfl rfl ?_
    refine zv_aload_n (pc := 19) g dL_law_19 0 rfl rfl ?_
    refine zv_slen (pc := 20) g hX hbl hbA dL_law_20 ?_
    refine zv_bipush (pc := 21) g dL_law_21 (v := 6) (by decide) ?_
    refine zv_isub (pc := 23) g dL_law_23 ?_
    refine zv_icmp_gt (pc := 24) 1408 g dL_law_24 rfl (fun _ => hend X M i) (fun q => absurd ((law_end (by omega) (by omega)).mpr (by omega)) q)
  | succ k ih =>
    intro i X M R hi hk
    refine zv_iload_n (pc := 18) g dL_law_18 3 rfl rfl ?_
    refine zv_aload_n (pc := 19) g dL_law_19 0 rfl rfl ?_
    refine zv_slen (pc := 20) g hX hbl hbA dL_law_20 ?_
    refine zv_bipush (pc := 21) g dL_law_21 (v := 6) (by decide) ?_
    refine zv_isub (pc := 23) g dL_law_23 ?_
    refine zv_icmp_gt (pc := 24) 1408 g dL_law_24 rfl (fun _ => hend X M i) (fun q => ?_)
    have hin : ¬ L < i + 6 := fun z => q ((law_end (by omega) (by omega)).mpr z)
    have nx : ∀ (X2 : XSt) (M2 : MSt), Rel X2 M2 → zV β 4 ((p, e, room_1, s), (m, #[Value.ref bs], below, meth, c), (lw_Z below #[Value.ref bs] s, (fun q : Nat => s.heap.size ≤ q), nc, ns)) (xW β b X2 ++ mW β a M2) 1402 [(0, .ref bs), (1, .ref (b 0)), (2, .ref (a 0)), (3, .int (nI i))] [] := by
      intro X2 M2 R2
      refine zv_iinc (pc := 1402) 6 [(3, .int (nI i + 6)), (0, .ref bs), (1, .ref (b 0)), (2, .ref (a 0))] g dL_law_1402 3 rfl (by decide) (by decide) rfl ?_
      refine zv_goto (pc := 1405) 18 g dL_law_1405 rfl ?_
      refine zv_sub [1, 2, 3, 0] rfl ?_
      rw [show nI i + 6 = nI (i + 6) from nI_add i 6]
      exact ih (i + 6) X2 M2 R2 (by omega) (by omega)
    refine zv_aload_n (pc := 27) g dL_law_27 0 rfl rfl ?_
    refine zv_iload_n (pc := 28) g dL_law_28 3 rfl rfl ?_
    refine zv_sld (pc := 29) g hX hbl hbA (vp_in_nI (by omega) (by omega)) dL_law_29 ?_
    refine zv_bipush (pc := 30) g dL_law_30 (v := 63) (by decide) ?_
    refine zv_iand (pc := 32) g dL_law_32 ?_
    refine zv_topi (fun y ey => ?_)
    rcases zz_ts_0_38 y with q | q | q | q | q | q | q | q | q | q | q | q | q | q | q | q | q | q | q | q | q | q | q | q | q | q | q | q | q | q | q | q | q | q | q | q | q | q | q | q
    · refine zv_tblIn (pc := 33) 0 204 g dL_law_33 q (by decide) (by decide) rfl rfl ?_
      exact lc_0 g hX hbl hL hin nx R
    · refine zv_tblIn (pc := 33) 1 227 g dL_law_33 q (by decide) (by decide) rfl rfl ?_
      exact lc_1 g hX hbl hL hin nx R
    · refine zv_tblIn (pc := 33) 2 270 g dL_law_33 q (by decide) (by decide) rfl rfl ?_
      exact lc_2 g hX hbl hL hin nx R
    · refine zv_tblIn (pc := 33) 3 303 g dL_law_33 q (by decide) (by decide) rfl rfl ?_
      exact lc_3 g hX hbl hL hin nx R
    · refine zv_tblIn (pc := 33) 4 326 g dL_law_33 q (by decide) (by decide) rfl rfl ?_
      exact lc_4 g hX hbl hL hin nx R
    · refine zv_tblIn (pc := 33) 5 349 g dL_law_33 q (by decide) (by decide) rfl rfl ?_
      exact lc_5 g hX hbl hL hin nx R
    · refine zv_tblIn (pc := 33) 6 382 g dL_law_33 q (by decide) (by decide) rfl rfl ?_
      exact lc_6 g hX hbl hL hin nx R
    · refine zv_tblIn (pc := 33) 7 425 g dL_law_33 q (by decide) (by decide) rfl rfl ?_
      exact lc_7 g hX hbl hL hin nx R
    · refine zv_tblIn (pc := 33) 8 458 g dL_law_33 q (by decide) (by decide) rfl rfl ?_
      exact lc_8 g hX hbl hL hin nx R
    · refine zv_tblIn (pc := 33) 9 491 g dL_law_33 q (by decide) (by decide) rfl rfl ?_
      exact lc_9 g hX hbl hL hin nx R
    · refine zv_tblIn (pc := 33) 10 524 g dL_law_33 q (by decide) (by decide) rfl rfl ?_
      exact lc_10 g hX hbl hL hin nx R
    · refine zv_tblIn (pc := 33) 11 547 g dL_law_33 q (by decide) (by decide) rfl rfl ?_
      exact lc_11 g hX hbl hL hin nx R
    · refine zv_tblIn (pc := 33) 12 570 g dL_law_33 q (by decide) (by decide) rfl rfl ?_
      exact lc_12 g hX hbl hL hin nx R
    · refine zv_tblIn (pc := 33) 13 593 g dL_law_33 q (by decide) (by decide) rfl rfl ?_
      exact lc_13 g hX hbl hL hin nx R
    · refine zv_tblIn (pc := 33) 14 636 g dL_law_33 q (by decide) (by decide) rfl rfl ?_
      exact lc_14 g hX hbl hL hin nx R
    · refine zv_tblIn (pc := 33) 15 679 g dL_law_33 q (by decide) (by decide) rfl rfl ?_
      exact lc_15 g hX hbl hL hin nx R
    · refine zv_tblIn (pc := 33) 16 702 g dL_law_33 q (by decide) (by decide) rfl rfl ?_
      exact lc_16 g hX hbl hL hin nx R
    · refine zv_tblIn (pc := 33) 17 735 g dL_law_33 q (by decide) (by decide) rfl rfl ?_
      exact lc_17 g hX hbl hL hin nx R
    · refine zv_tblIn (pc := 33) 18 768 g dL_law_33 q (by decide) (by decide) rfl rfl ?_
      exact lc_18 g hX hbl hL hin nx R
    · refine zv_tblIn (pc := 33) 19 801 g dL_law_33 q (by decide) (by decide) rfl rfl ?_
      exact lc_19 g hX hbl hL hin nx R
    · refine zv_tblIn (pc := 33) 20 834 g dL_law_33 q (by decide) (by decide) rfl rfl ?_
      exact lc_20 g hX hbl hL hin nx R
    · refine zv_tblIn (pc := 33) 21 867 g dL_law_33 q (by decide) (by decide) rfl rfl ?_
      exact lc_21 g hX hbl hL hin nx R
    · refine zv_tblIn (pc := 33) 22 890 g dL_law_33 q (by decide) (by decide) rfl rfl ?_
      exact lc_22 g hX hbl hL hin nx R
    · refine zv_tblIn (pc := 33) 23 933 g dL_law_33 q (by decide) (by decide) rfl rfl ?_
      exact lc_23 g hX hbl hL hin nx R
    · refine zv_tblIn (pc := 33) 24 956 g dL_law_33 q (by decide) (by decide) rfl rfl ?_
      exact lc_24 g hX hbl hL hin nx R
    · refine zv_tblIn (pc := 33) 25 979 g dL_law_33 q (by decide) (by decide) rfl rfl ?_
      exact lc_25 g hX hbl hL hin nx R
    · refine zv_tblIn (pc := 33) 26 1012 g dL_law_33 q (by decide) (by decide) rfl rfl ?_
      exact lc_26 g hX hbl hL hin nx R
    · refine zv_tblIn (pc := 33) 27 1025 g dL_law_33 q (by decide) (by decide) rfl rfl ?_
      exact lc_27 g hX hbl hL hin nx R
    · refine zv_tblIn (pc := 33) 28 1038 g dL_law_33 q (by decide) (by decide) rfl rfl ?_
      exact lc_28 g hX hbl hL hin nx R
    · refine zv_tblIn (pc := 33) 29 1081 g dL_law_33 q (by decide) (by decide) rfl rfl ?_
      exact lc_29 g hX hbl hL hin nx R
    · refine zv_tblIn (pc := 33) 30 1155 g dL_law_33 q (by decide) (by decide) rfl rfl ?_
      exact lc_30 g hX hbl hL hin nx R
    · refine zv_tblIn (pc := 33) 31 1218 g dL_law_33 q (by decide) (by decide) rfl rfl ?_
      exact lc_31 g hX hbl hL hin nx R
    · refine zv_tblIn (pc := 33) 32 1241 g dL_law_33 q (by decide) (by decide) rfl rfl ?_
      exact lc_32 g hX hbl hL hin nx R
    · refine zv_tblIn (pc := 33) 33 1274 g dL_law_33 q (by decide) (by decide) rfl rfl ?_
      exact lc_33 g hX hbl hL hin nx R
    · refine zv_tblIn (pc := 33) 34 1317 g dL_law_33 q (by decide) (by decide) rfl rfl ?_
      exact lc_34 g hX hbl hL hin nx R
    · refine zv_tblIn (pc := 33) 35 1330 g dL_law_33 q (by decide) (by decide) rfl rfl ?_
      exact lc_35 g hX hbl hL hin nx R
    · refine zv_tblIn (pc := 33) 36 1343 g dL_law_33 q (by decide) (by decide) rfl rfl ?_
      exact lc_36 g hX hbl hL hin nx R
    · refine zv_tblIn (pc := 33) 37 1356 g dL_law_33 q (by decide) (by decide) rfl rfl ?_
      exact lc_37 g hX hbl hL hin nx R
    · refine zv_tblIn (pc := 33) 38 1379 g dL_law_33 q (by decide) (by decide) rfl rfl ?_
      exact lc_38 g hX hbl hL hin nx R
    · refine zv_tblOut (pc := 33) 1402 g dL_law_33 q rfl ?_
      exact nx X M R
end LawLoop
