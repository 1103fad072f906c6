section ZStr
variable {β : zz_B} {n : Nat} {Γ : zz_X} {cc : ByteArray} {own : String} {fr lo : Nat} {ws : va_W} {pc : Nat} {lv : List (Nat × Value)} {rest : List Value}
/-! the string constants, by their places k < 14 -/
theorem zv_ldcs {i k : Nat} (g : zG β n Γ cc RX3 fr lo) (hk : k < 14) (hi : zz_pool.getD k 0 = i) (hd : decode cc pc = .ok (.ldc i, 2)) (kk : zV β n Γ ws (pc + 2) lv (.ref (β.2.2.2.1 k) :: rest)) : zV β n Γ ws pc lv rest := by
  obtain ⟨⟨p, e, R, s⟩, ⟨m, args, below, meth, c⟩, ⟨Q, A, nc, ns⟩⟩ := Γ
  obtain ⟨hx, hb, hml, hown, hts, hK, hlk, hA, ⟨hfr, hlo⟩, ⟨hnc, hns⟩, hE⟩ := g
  subst hi
  intro H locs ls hP hD hS hl
  exact va_ldcS hx hb hown (hE.2.1 k hk) hd (kk H locs ls hP hD hS hl)
theorem zv_kval {k : Nat} (g : zG β n Γ cc RJ0 fr lo) (hk : k < 14) (hd : decode cc pc = .ok (.getfield 9, 3)) (kk : zV β n Γ ws (pc + 3) lv (.ref (β.2.2.2.2 k) :: rest)) : zV β n Γ ws pc lv (.ref (β.2.2.2.1 k) :: rest) := by
  obtain ⟨⟨p, e, R, s⟩, ⟨m, args, below, meth, c⟩, ⟨Q, A, nc, ns⟩⟩ := Γ
  obtain ⟨hx, hb, hml, hown, hts, hK, hlk, hA, ⟨hfr, hlo⟩, ⟨hnc, hns⟩, hE⟩ := g
  intro H locs ls hP hD hS hl
  exact vk_getf hx hb (hE.1.1 k hk).2.2.1 hS hown (hts _ wd_1122) (fun _ h => h) hd (kk H locs ls hP hD hS hl)
theorem zv_kcod {k : Nat} (g : zG β n Γ cc RJ0 fr lo) (hk : k < 14) (hd : decode cc pc = .ok (.getfield 15, 3)) (kk : zV β n Γ ws (pc + 3) lv (.int 0 :: rest)) : zV β n Γ ws pc lv (.ref (β.2.2.2.1 k) :: rest) := by
  obtain ⟨⟨p, e, R, s⟩, ⟨m, args, below, meth, c⟩, ⟨Q, A, nc, ns⟩⟩ := Γ
  obtain ⟨hx, hb, hml, hown, hts, hK, hlk, hA, ⟨hfr, hlo⟩, ⟨hnc, hns⟩, hE⟩ := g
  intro H locs ls hP hD hS hl
  exact vk_getf hx hb (hE.1.1 k hk).2.1 hS hown (hts _ wd_1123) (fun _ h => h) hd (kk H locs ls hP hD hS hl)
theorem zv_kcs (g : zG β n Γ cc RJ0 fr lo) (hd : decode cc pc = .ok (.getstatic 38, 3)) (kk : zV β n Γ ws (pc + 3) lv (.int 1 :: rest)) : zV β n Γ ws pc lv rest := by
  obtain ⟨⟨p, e, R, s⟩, ⟨m, args, below, meth, c⟩, ⟨Q, A, nc, ns⟩⟩ := Γ
  obtain ⟨hx, hb, hml, hown, hts, hK, hlk, hA, ⟨hfr, hlo⟩, ⟨hnc, hns⟩, hE⟩ := g
  intro H locs ls hP hD hS hl
  exact va_gets hx hb hE.2.2.1 hS hown (hts _ wd_506) (fun _ h => h) hd (kk H locs ls hP hD hS hl)
theorem zv_ksf (g : zG β n Γ cc RJ0 fr lo) (hd : decode cc pc = .ok (.getstatic 1053, 3)) (kN : zV β n Γ ws (pc + 3) lv (.null :: rest)) (kk : ∀ t : Nat, zV β n Γ ws (pc + 3) lv (.ref t :: rest)) : zV β n Γ ws pc lv rest := by
  obtain ⟨⟨p, e, R, s⟩, ⟨m, args, below, meth, c⟩, ⟨Q, A, nc, ns⟩⟩ := Γ
  obtain ⟨hx, hb, hml, hown, hts, hK, hlk, hA, ⟨hfr, hlo⟩, ⟨hnc, hns⟩, hE⟩ := g
  intro H locs ls hP hD hS hl
  rcases hE.2.2.2.1 with h | ⟨t, h⟩
  · exact va_gets hx hb h hS hown (hts _ wd_522) (fun _ h => h) hd (kN H locs ls hP hD hS hl)
  · exact va_gets hx hb h hS hown (hts _ wd_522) (fun _ h => h) hd (kk t H locs ls hP hD hS hl)
theorem zv_klen {k : Nat} (g : zG β n Γ cc own fr lo) (hk : k < 14) (hd : decode cc pc = .ok (.arraylength, 1)) (kk : zV β n Γ ws (pc + 1) lv (.int (nI (zz_len.getD k 0)) :: rest)) : zV β n Γ ws pc lv (.ref (β.2.2.2.2 k) :: rest) := by
  obtain ⟨⟨p, e, R, s⟩, ⟨m, args, below, meth, c⟩, ⟨Q, A, nc, ns⟩⟩ := Γ
  obtain ⟨hx, hb, hml, hown, hts, hK, hlk, hA, ⟨hfr, hlo⟩, ⟨hnc, hns⟩, hE⟩ := g
  intro H locs ls hP hD hS hl
  exact va_tlen hx hb (hE.1.1 k hk).2.2.2 hS rfl hd (kk H locs ls hP hD hS hl)
theorem zv_kbal {k : Nat} {i : Int32} (g : zG β n Γ cc own fr lo) (hk : k < 14) (hin : vp_in i (zz_len.getD k 0)) (hd : decode cc pc = .ok (.baload, 1)) (kk : zV β n Γ ws (pc + 1) lv (.int ((zz_byt.getD k []).getD i.toNatClampNeg 0) :: rest)) : zV β n Γ ws pc lv (.int i :: .ref (β.2.2.2.2 k) :: rest) := by
  obtain ⟨⟨p, e, R, s⟩, ⟨m, args, below, meth, c⟩, ⟨Q, A, nc, ns⟩⟩ := Γ
  obtain ⟨hx, hb, hml, hown, hts, hK, hlk, hA, ⟨hfr, hlo⟩, ⟨hnc, hns⟩, hE⟩ := g
  intro H locs ls hP hD hS hl
  exact va_tb hx hb (hE.1.1 k hk).2.2.2 hS hin rfl hd (kk H locs ls hP hD hS hl)
theorem zv_callK {i k : Nat} {y : MethodName} {b : ByteArray} {nl np fr2 lo2 : Nat} {ret : Option FieldType} {As st : List Value} {post : Option Value → va_W → Prop} (g : zG β n Γ cc own fr lo) (hk : k < 14) (hw : zz_CV own i y b nl ret np) (hc : zC β y b nl ret fr2 lo2 (.ref (β.2.2.2.1 k) :: As) [] post) (hfr : fr2 + 1 ≤ fr) (hlo : 8 + (nl + 11) + lo2 ≤ lo)
    (hcy : y.cls = "java/lang/String") (hn : As.length = np) (hst : st = As.reverse ++ .ref (β.2.2.2.1 k) :: rest) (hrs : (rest.map fun v => v.category).sum ≤ 8) (hd : decode cc pc = .ok (.invokevirtual i, 3))
    (kk : ∀ (r : Option Value) (w : va_W), post r w → zV β n Γ (w ++ ws) (pc + 3) lv (r.toList ++ rest)) : zV β n Γ ws pc lv st := by
  refine zv_perm zz_pN ?_
  obtain ⟨l, z⟩ := β
  obtain ⟨⟨p, e, R, s⟩, ⟨m, args, below, meth, c⟩, ⟨Q, A, nc, ns⟩⟩ := Γ
  obtain ⟨hx, hb, hml, hown, hts, hK, hlk, hA, ⟨hfr0, hlo0⟩, ⟨hnc, hns⟩, hE⟩ := g
  intro H locs ls hP hD hS hl
  refine zz_back (z := z) (post := post) (wc := []) (suf := ws) (a := (Value.ref (z.2.2.1 k) :: As).toArray) rfl ?_ hP hD hS hA hl kk
  exact va_runV (C := y.cls) (As := As) (rest := rest) (n := np) (bytes := b) (maxL := nl) (ret := ret) ⟨hx, hb, hml, hown, hts⟩ (hc H.size) ⟨zz_callB hts hw.1 (Nat.le_trans hfr hfr0) (Nat.le_trans hlo hlo0), hts _ hw.2.1, hts _ hw.2.2⟩
    ⟨zPc.blind, by rw [hcy]; exact vk_recv hE.1 hk hS, fun U hU hW => zz_pre hU hW hK hP hD hS hA hE⟩ rfl hn hl.1 hst (lv_room hrs) hd ⟨hnc, hns⟩
end ZStr
/-! String's own methods over the constants -/
theorem ctJ0_coder {β : zz_B} {k : Nat} (hk : k < 14) : zCp β yJ0_coder_7d493 cJ0_coder_7d493 1 (some .byte) 0 0 [.ref (β.2.2.2.1 k)] [] (fun v => v = 0) := by
  unfold zCp
  refine zC.of (by decide) (Nat.le_of_ble_eq_true rfl) ?_
  intro Γ g hR
  show zV β 1 Γ [] 0 [(0, .ref (β.2.2.2.1 k))] []
  refine zv_kcs (pc := 0) g dJ0_coder_7d493_0 ?_
  refine zv_if_eq (pc := 3) 13 g dJ0_coder_7d493_3 rfl (fun c => absurd c (by decide)) (fun _ => ?_)
  refine zv_aload_n (pc := 6) g dJ0_coder_7d493_6 0 rfl rfl ?_
  refine zv_kcod (pc := 7) g hk dJ0_coder_7d493_7 ?_
  refine zv_goto (pc := 10) 14 g dJ0_coder_7d493_10 rfl ?_
  exact zv_zret (pc := 14) g hR (by decide) dJ0_coder_7d493_14 ⟨_, rfl, rfl, rfl⟩
theorem ctJ0_isLatin1 {β : zz_B} {k : Nat} (hk : k < 14) : zCp β yJ0_isLatin1_aae02 cJ0_isLatin1_aae02 1 (some .boolean) 0 0 [.ref (β.2.2.2.1 k)] [] (fun v => v = 1) := by
  unfold zCp
  refine zC.of (by decide) (Nat.le_of_ble_eq_true rfl) ?_
  intro Γ g hR
  show zV β 1 Γ [] 0 [(0, .ref (β.2.2.2.1 k))] []
  refine zv_kcs (pc := 0) g dJ0_isLatin1_aae02_0 ?_
  refine zv_if_eq (pc := 3) 17 g dJ0_isLatin1_aae02_3 rfl (fun c => absurd c (by decide)) (fun _ => ?_)
  refine zv_aload_n (pc := 6) g dJ0_isLatin1_aae02_6 0 rfl rfl ?_
  refine zv_kcod (pc := 7) g hk dJ0_isLatin1_aae02_7 ?_
  refine zv_if_ne (pc := 10) 17 g dJ0_isLatin1_aae02_10 rfl (fun c => absurd rfl c) (fun _ => ?_)
  refine zv_iconst (pc := 13) g dJ0_isLatin1_aae02_13 (v := 1) (by decide) ?_
  refine zv_goto (pc := 14) 18 g dJ0_isLatin1_aae02_14 rfl ?_
  exact zv_zret (pc := 18) g hR (by decide) dJ0_isLatin1_aae02_18 ⟨_, rfl, rfl, rfl⟩
theorem zz_len_all : ∀ k, k < 14 → zz_len.getD k 0 = (zz_byt.getD k []).length ∧ (zz_byt.getD k []).length < 2 ^ 31 ∧ nI (zz_len.getD k 0) >>> ((0 : Int32) &&& 31) = nI (zz_len.getD k 0) ∧ ∀ b ∈ zz_byt.getD k [], ((b &&& 255).toUInt32 % 65536).toInt32 = b ∧ narrow .char (.int b) = .int b := by decide +kernel
theorem ctJ0_length {β : zz_B} {k : Nat} (hk : k < 14) : zCp β yJ0_length_8abf5 cJ0_length_8abf5 1 (some .int) 1 20 [.ref (β.2.2.2.1 k)] [] (fun v => v = nI (zz_len.getD k 0)) := by
  unfold zCp
  refine zC.of (by decide) (Nat.le_of_ble_eq_true rfl) ?_
  intro Γ g hR
  show zV β 1 Γ [] 0 [(0, .ref (β.2.2.2.1 k))] []
  refine zv_aload_n (pc := 0) g dJ0_length_8abf5_0 0 rfl rfl ?_
  refine zv_kval (pc := 1) g hk dJ0_length_8abf5_1 ?_
  refine zv_klen (pc := 4) g hk dJ0_length_8abf5_4 ?_
  refine zv_aload_n (pc := 5) g dJ0_length_8abf5_5 0 rfl rfl ?_
  refine zv_callK (pc := 6) g hk cw_J0_335 (ctJ0_coder hk) (by decide) (by decide) rfl rfl rfl (Nat.le_of_ble_eq_true rfl) dJ0_length_8abf5_6 (fun r w ⟨v, e1, e2, h⟩ => ?_)
  subst e1; subst e2; subst h
  show zV β 1 Γ [] 9 _ [.int 0, _]
  refine zv_ishr (pc := 9) g dJ0_length_8abf5_9 ?_
  exact zv_iret (pc := 10) g hR dJ0_length_8abf5_10 ⟨_, rfl, rfl, (zz_len_all k hk).2.2.1⟩
theorem ctJ3_checkIndex {β : zz_B} {x0 x1 : Int32} {v : Value} (h0 : ¬ x0 < 0) (h1 : x0 < x1) (hv : v = .null ∨ ∃ t, v = .ref t) : zCp β yJ3_checkIndex_8e157 cJ3_checkIndex_8e157 3 (some .int) 0 0 [.int x0, .int x1, v] [] (fun v => True) := by
  have hc1 : v.category = 1 := by rcases hv with rfl | ⟨t, rfl⟩ <;> rfl
  unfold zCp
  refine zC.of (by decide) (by rcases hv with rfl | ⟨t, rfl⟩ <;> exact Nat.le_of_ble_eq_true rfl) ?_
  intro Γ g hR
  have hlv : lv_args 0 [.int x0, .int x1, v] = [(0, .int x0), (1, .int x1), (2, v)] := by rcases hv with rfl | ⟨t, rfl⟩ <;> rfl
  rw [hlv]
  refine zv_iload_n (pc := 0) g dJ3_checkIndex_8e157_0 0 rfl rfl ?_
  refine zv_if_lt (pc := 1) 9 g dJ3_checkIndex_8e157_1 rfl (fun c => absurd c h0) (fun _ => ?_)
  refine zv_iload_n (pc := 4) g dJ3_checkIndex_8e157_4 0 rfl rfl ?_
  refine zv_iload_n (pc := 5) g dJ3_checkIndex_8e157_5 1 rfl rfl ?_
  refine zv_icmp_lt (pc := 6) 16 g dJ3_checkIndex_8e157_6 rfl (fun _ => ?_) (fun c => absurd h1 c)
  refine zv_iload_n (pc := 16) g dJ3_checkIndex_8e157_16 0 rfl rfl ?_
  exact zv_iret (pc := 17) g hR dJ3_checkIndex_8e157_17 ⟨_, rfl, rfl, trivial⟩
theorem ctJ0_checkIndex {β : zz_B} {x0 x1 : Int32} (h0 : ¬ x0 < 0) (h1 : x0 < x1) : zC β yJ0_checkIndex_df160 cJ0_checkIndex_df160 2 none 1 22 [.int x0, .int x1] [] (fun r w => r = none ∧ w = []) := by
  refine zC.of (by decide) (Nat.le_of_ble_eq_true rfl) ?_
  intro Γ g hR
  show zV β 2 Γ [] 0 [(0, .int x0), (1, .int x1)] []
  refine zv_iload_n (pc := 0) g dJ0_checkIndex_df160_0 0 rfl rfl ?_
  refine zv_iload_n (pc := 1) g dJ0_checkIndex_df160_1 1 rfl rfl ?_
  refine zv_ksf (pc := 2) g dJ0_checkIndex_df160_2 ?_ (fun t => ?_)
  · refine zv_cSp (pc := 5) g cw_J0_1059 (ctJ3_checkIndex (v := .null) h0 h1 (Or.inl rfl)) (by decide) (by decide) zz_pN rfl rfl (Nat.le_of_ble_eq_true rfl) dJ0_checkIndex_df160_5 (fun v _ => ?_)
    refine zv_pop (pc := 8) g dJ0_checkIndex_df160_8 rfl ?_
    exact zv_vret (pc := 9) g hR dJ0_checkIndex_df160_9 ⟨rfl, rfl⟩
  · refine zv_cSp (pc := 5) g cw_J0_1059 (ctJ3_checkIndex (v := .ref t) h0 h1 (Or.inr ⟨t, rfl⟩)) (by decide) (by decide) zz_pN rfl rfl (Nat.le_of_ble_eq_true rfl) dJ0_checkIndex_df160_5 (fun v _ => ?_)
    refine zv_pop (pc := 8) g dJ0_checkIndex_df160_8 rfl ?_
    exact zv_vret (pc := 9) g hR dJ0_checkIndex_df160_9 ⟨rfl, rfl⟩
theorem zz_strat {k : Nat} {i : Int32} (hk : k < 14) (hi : vp_in i (zz_len.getD k 0)) : ((zz_byt.getD k []).getD i.toNatClampNeg 0) ∈ zz_byt.getD k [] := by
  have h1 := (zz_len_all k hk).1
  have h2 : i.toNatClampNeg < (zz_byt.getD k []).length := by
    rw [← h1]
    exact Nat.not_le.mp fun q => hi (Or.inr q)
  generalize zz_byt.getD k [] = L at h2 ⊢
  rw [List.getD_eq_getElem?_getD, List.getElem?_eq_getElem h2]
  exact List.getElem_mem h2
theorem ctJ1_charAt {β : zz_B} {k : Nat} {i : Int32} (hk : k < 14) (hi : vp_in i (zz_len.getD k 0)) : zCp β yJ1_charAt_3b067 cJ1_charAt_3b067 2 (some .char) 2 43 [.ref (β.2.2.2.2 k), .int i] [] (fun v => v = ((zz_byt.getD k []).getD i.toNatClampNeg 0)) := by
  obtain ⟨e1, e2, -, e3⟩ := zz_len_all k hk
  have e4 := e3 _ (zz_strat hk hi)
  obtain ⟨j, hj, rfl⟩ := vp_in_of hi (by omega)
  unfold zCp
  refine zC.of (by decide) (Nat.le_of_ble_eq_true rfl) ?_
  intro Γ g hR
  show zV β 2 Γ [] 0 [(0, .ref (β.2.2.2.2 k)), (1, .int (nI j))] []
  refine zv_iload_n (pc := 0) g dJ1_charAt_3b067_0 1 rfl rfl ?_
  refine zv_aload_n (pc := 1) g dJ1_charAt_3b067_1 0 rfl rfl ?_
  refine zv_klen (pc := 2) g hk dJ1_charAt_3b067_2 ?_
  refine zv_callS (pc := 3) (As := [.int (nI j), .int (nI (zz_len.getD k 0))]) (suf := []) g cw_J1_9 (ctJ0_checkIndex (nI_pos (by omega)) (nI_lt hj (by omega))) (by decide) (by decide) zz_pN rfl rfl (Nat.le_of_ble_eq_true rfl) dJ1_charAt_3b067_3 (fun r w ⟨f1, f2⟩ => ?_)
  subst f1; subst f2
  show zV β 2 Γ [] 6 _ []
  refine zv_aload_n (pc := 6) g dJ1_charAt_3b067_6 0 rfl rfl ?_
  refine zv_iload_n (pc := 7) g dJ1_charAt_3b067_7 1 rfl rfl ?_
  refine zv_kbal (pc := 8) g hk hi dJ1_charAt_3b067_8 ?_
  refine zv_sipush (pc := 9) g dJ1_charAt_3b067_9 (v := 255) (by decide) ?_
  refine zv_iand (pc := 12) g dJ1_charAt_3b067_12 ?_
  refine zv_i2c (pc := 13) g dJ1_charAt_3b067_13 ?_
  rw [e4.1]
  exact zv_zret (pc := 14) g hR e4.2 dJ1_charAt_3b067_14 ⟨_, rfl, rfl, rfl⟩
theorem ctJ0_charAt {β : zz_B} {k : Nat} {i : Int32} (hk : k < 14) (hi : vp_in i (zz_len.getD k 0)) : zCp β yJ0_charAt_5068e cJ0_charAt_5068e 2 (some .char) 3 64 [.ref (β.2.2.2.1 k), .int i] [] (fun v => v = ((zz_byt.getD k []).getD i.toNatClampNeg 0)) := by
  obtain ⟨e1, e2, -, e3⟩ := zz_len_all k hk
  have e4 := e3 _ (zz_strat hk hi)
  unfold zCp
  refine zC.of (by decide) (Nat.le_of_ble_eq_true rfl) ?_
  intro Γ g hR
  show zV β 2 Γ [] 0 [(0, .ref (β.2.2.2.1 k)), (1, .int i)] []
  refine zv_aload_n (pc := 0) g dJ0_charAt_5068e_0 0 rfl rfl ?_
  refine zv_callK (pc := 1) (As := []) g hk cw_J0_492 (ctJ0_isLatin1 hk) (by decide) (by decide) rfl rfl rfl (Nat.le_of_ble_eq_true rfl) dJ0_charAt_5068e_1 (fun r w ⟨v, f1, f2, h⟩ => ?_)
  subst f1; subst f2; subst h
  show zV β 2 Γ [] 4 _ [.int 1]
  refine zv_if_eq (pc := 4) 16 g dJ0_charAt_5068e_4 rfl (fun c => absurd c (by decide)) (fun _ => ?_)
  refine zv_aload_n (pc := 7) g dJ0_charAt_5068e_7 0 rfl rfl ?_
  refine zv_kval (pc := 8) g hk dJ0_charAt_5068e_8 ?_
  refine zv_iload_n (pc := 11) g dJ0_charAt_5068e_11 1 rfl rfl ?_
  refine zv_cSp (pc := 12) g cw_J0_495 (ctJ1_charAt hk hi) (by decide) (by decide) zz_pN rfl rfl (Nat.le_of_ble_eq_true rfl) dJ0_charAt_5068e_12 (fun v h => ?_)
  subst h
  exact zv_zret (pc := 15) g hR e4.2 dJ0_charAt_5068e_15 ⟨_, rfl, rfl, rfl⟩
section ZStr2
variable {β : zz_B} {n : Nat} {Γ : zz_X} {cc : ByteArray} {own : String} {fr lo : Nat} {ws : va_W} {pc : Nat} {lv : List (Nat × Value)} {rest : List Value}
theorem zv_strlen {k : Nat} (g : zG β n Γ cc RX3 fr lo) (hk : k < 14) (hfr : 2 ≤ fr) (hlo : 40 ≤ lo) (hrs : (rest.map fun v => v.category).sum ≤ 8) (hd : decode cc pc = .ok (.invokevirtual 108, 3)) (kk : zV β n Γ ws (pc + 3) lv (.int (nI (zz_len.getD k 0)) :: rest)) : zV β n Γ ws pc lv (.ref (β.2.2.2.1 k) :: rest) := by
  refine zv_callK (As := []) g hk cw_X3_108 (ctJ0_length hk) hfr hlo rfl rfl rfl hrs hd (fun r w ⟨v, f1, f2, h⟩ => ?_)
  subst f1; subst f2; subst h
  exact kk
theorem zv_strat {k : Nat} {i : Int32} (g : zG β n Γ cc RX3 fr lo) (hk : k < 14) (hi : vp_in i (zz_len.getD k 0)) (hfr : 4 ≤ fr) (hlo : 85 ≤ lo) (hrs : (rest.map fun v => v.category).sum ≤ 8) (hd : decode cc pc = .ok (.invokevirtual 113, 3)) (kk : zV β n Γ ws (pc + 3) lv (.int ((zz_byt.getD k []).getD i.toNatClampNeg 0) :: rest)) : zV β n Γ ws pc lv (.int i :: .ref (β.2.2.2.1 k) :: rest) := by
  refine zv_callK (As := [.int i]) g hk cw_X3_113 (ctJ0_charAt hk hi) hfr hlo rfl rfl rfl hrs hd (fun r w ⟨v, f1, f2, h⟩ => ?_)
  subst f1; subst f2; subst h
  exact kk
end ZStr2
