/-! THE START: both sides as their constructors leave them, alike; what the law's entry knows; the law's walk. -/
theorem upd_at {f : Nat → Int32} {k j : Nat} {v : Int32} : upd f k v j = if j = k then v else f j := rfl
set_option maxRecDepth 100000 in
set_option maxHeartbeats 1000000 in
theorem row0 : m_row nM8 = upd (upd (upd (upd (upd (upd (upd (upd (upd (fun _ => 0) 1 3) 3 20) 5 20) 7 20) 9 20) 11 20) 13 20) 15 20) 17 20 := rfl
theorem live0 : H0 = rowH (m_row nM8) := by
  rw [row0]
  refine (rowH_ext ?_ ?_ ?_ ?_ ?_ ?_ ?_ ?_ ?_).symm
  · intro i
    rcases i with _ | _ | _ | _ | _ | _ | _ | _ | i <;> rfl
  all_goals try (intro i; rcases i with _ | _ | _ | _ | _ | _ | _ | _ | i <;> first | rfl | (rw [if_neg (by omega)]; rfl))
  all_goals rfl
theorem zS0 : zS H0 := by
  refine ⟨fun i hi => ?_, fun _ _ => rfl, fun _ _ => rfl, fun _ _ => rfl, fun _ _ => rfl, fun _ _ => rfl⟩
  show upd (upd (upd (upd (upd (upd (upd (upd (fun _ => 0) 0 20) 1 20) 2 20) 3 20) 4 20) 5 20) 6 20) 7 20 i = 0
  simp only [upd_at]
  repeat rw [if_neg (by omega)]
theorem dust0 (i : Nat) : Rg 99 (h_dust H0 i) := by
  show Rg 99 (upd (upd (upd (upd (upd (upd (upd (upd (fun _ => 0) 0 20) 1 20) 2 20) 3 20) 4 20) 5 20) 6 20) 7 20 i)
  have h : Rg 99 (20 : Int32) := ⟨20, by omega, rfl⟩
  simp only [upd_at]
  repeat (first | exact Rg0 | (split; exact h))
theorem ok0 : okS 9999 H0 := ⟨dust0, fun _ => Rg0, fun _ => Rg0, fun _ => Rg0, fun _ => Rg0, fun _ => Rg0, Rg0, ⟨3, by omega, rfl⟩, Rg0, zS0⟩
theorem rel0 : Rel X0 nM8 := ⟨⟨live0, ok0⟩, ⟨zS0, zS0, zS0⟩, ⟨rfl, Or.inl rfl⟩, rfl, ⟨rfl, rfl, Rg0, fun _ => Rg0⟩, fun _ _ => ⟨rfl, rfl, fun _ _ => rfl, Rg0⟩⟩
theorem st_rf : ∀ i : Nat, i < 14 → Cond.stringRef "DusterRounds$Tape" (zz_pool.getD i 0) (zz_txt.getD i "") ∈ lw_tbl := by
  intro i hi
  match i, hi with
  | 0, _ => exact wq_484
  | 1, _ => exact wq_485
  | 2, _ => exact wq_486
  | 3, _ => exact wq_487
  | 4, _ => exact wq_488
  | 5, _ => exact wq_489
  | 6, _ => exact wq_490
  | 7, _ => exact wq_491
  | 8, _ => exact wq_492
  | 9, _ => exact wq_493
  | 10, _ => exact wq_494
  | 11, _ => exact wq_495
  | 12, _ => exact wq_496
  | 13, _ => exact wq_497
  | k + 14, hk => exact absurd hk (by omega)
/-! what the law's entry knows, as data -/
theorem at_known {p : Program} {s : State} {m : MethodId} {meth : Method} {c : Code} {b L : Nat} {xs : Nat → Int32} (C0 : lw_At p s m meth c b L xs) : ∃ z : zz_Z, va_K z.1 vwCl (zz_tys z.2.1) s ∧ zz_E z (fun q : Nat => s.heap.size ≤ q) s s.heap := by
  obtain ⟨hx, hb, hr, hml, hown, hts, hX, hbl, hlocks, hgv⟩ := id C0
  have ht : ∀ w ∈ zT, w.before #[Value.ref b] s = true := fun w hw => hts w (zT_sub w hw)
  have hf := flat_of_before _ hgv
  have hA : ∀ a : Nat, a < s.heap.size → ¬ (fun q : Nat => s.heap.size ≤ q) a := fun a h => Nat.not_le.mpr h
  obtain ⟨c0, i0, k0⟩ := u_known (C := RX0) (T := TX0) (N := 9) (n := 9) ht zinX0 (ht _ wd_86)
  obtain ⟨c1, i1, k1⟩ := u_known (C := RX2) (T := TX2) (N := 3) (n := 3) ht zinX2 (ht _ wd_166)
  obtain ⟨c2, i2, k2⟩ := u_known (C := RX3) (T := TX3) (N := 7) (n := 7) ht zinX3 (ht _ wd_136)
  obtain ⟨c3, i3, k3⟩ := u_known (C := RX4) (T := TX4) (N := 8) (n := 8) ht zinX4 (ht _ wd_78)
  obtain ⟨c4, i4, k4⟩ := u_known (C := RX5) (T := TX5) (N := 19) (n := 19) ht zinX5 (ht _ wd_666)
  obtain ⟨cI, kI, mI, fI, gI, eI⟩ := Cond.arrayClass_spec (ht _ wd_134)
  obtain ⟨cJ, kJ, mJ, fJ, gJ, eJ⟩ := Cond.arrayClass_spec (ht _ wd_184)
  obtain ⟨mS, cS, kS, hS1, -, gS, eS, fS⟩ := Cond.arrayOver_spec (hts _ wq_165)
  obtain ⟨adK, adV, hstr, hev⟩ := vk_Sof (N := 14) (tm := sTm) (len := zz_len) (byt := zz_byt) (A := fun q : Nat => s.heap.size ≤ q) (by decide) (fun i hi => hf _ (st_ex i hi)) (fun i hi => hf _ (st_co i hi)) (fun i hi => hf _ (st_ar i hi)) (fun i hi => hf _ (st_le i hi)) (fun i hi j hj => hf _ (st_el i hi j hj)) (fun i j hi hj hij => (st_ne i j hi hj hij).imp (hf _) (hf _)) hA
  refine ⟨((fun k => if k = 0 then c0 else if k = 1 then c1 else if k = 2 then c2 else if k = 3 then c3 else c4, fun k => if k = 0 then i0 else if k = 1 then i1 else if k = 2 then i2 else if k = 3 then i3 else i4), (cI, cJ, cS), adK, adV), ⟨?_, ?_⟩, hstr, fun k hk => vk_R.of (hts _ (st_rf k hk)) (hev k hk), va_Zof (hts _ wq_507) (ht _ wd_73) (va_eqi (hf _ st_cs)) hA, va_Zqof (hts _ wq_523) (ht _ wd_75) (hf _ st_fm) hA, va_Nw.of rfl (hts _ wq_137), va_Nw.of rfl (hts _ wq_167), va_AO.of (hts _ wq_165)⟩
  · intro k q hq
    match k, hq with
    | 0, hq => cases hq; exact k0
    | 1, hq => cases hq; exact k1
    | 2, hq => cases hq; exact k2
    | 3, hq => cases hq; exact k3
    | 4, hq => cases hq; exact k4
    | k + 5, hq => simp [vwCl] at hq
  · intro k q hq
    match k, hq with
    | 0, hq => cases hq; exact ⟨fun n z => ⟨fun k h => (by cases h), kI, gI, mI, eI⟩, fI⟩
    | 1, hq => cases hq; exact ⟨fun n z => ⟨fun k h => (by cases h), kJ, gJ, mJ, eJ⟩, fJ⟩
    | 2, hq => cases hq; exact ⟨fun n z => ⟨fun k h => (by cases h), kS, gS, mS, eS⟩, kS, mS, gS, eS, hS1, fS⟩
    | k + 3, hq => simp [zz_tys] at hq
theorem df_X4 : ∀ j, j < 8 → defaultValue (tyX4 j) = vp_V [.null, .null, .null, .null, .null, .null, .null, .int 0] j := by
  intro j hj
  match j, hj with
  | 0, _ => rfl
  | 1, _ => rfl
  | 2, _ => rfl
  | 3, _ => rfl
  | 4, _ => rfl
  | 5, _ => rfl
  | 6, _ => rfl
  | 7, _ => rfl
  | k + 8, hk => exact absurd hk (by omega)
theorem df_X5 : ∀ j, j < 19 → defaultValue (tyX5 j) = vp_V [.null, .null, .null, .null, .null, .int 0, .int 0, .int 0, .int 0, .long 0, .int 0, .int 0, .null, .null, .null, .null, .null, .null, .int 0] j := by
  intro j hj
  match j, hj with
  | 0, _ => rfl
  | 1, _ => rfl
  | 2, _ => rfl
  | 3, _ => rfl
  | 4, _ => rfl
  | 5, _ => rfl
  | 6, _ => rfl
  | 7, _ => rfl
  | 8, _ => rfl
  | 9, _ => rfl
  | 10, _ => rfl
  | 11, _ => rfl
  | 12, _ => rfl
  | 13, _ => rfl
  | 14, _ => rfl
  | 15, _ => rfl
  | 16, _ => rfl
  | 17, _ => rfl
  | 18, _ => rfl
  | k + 19, hk => exact absurd hk (by omega)
theorem cb_L_9 : zz_CB RL 9 yX4_init cX4_init 2 none 0 := ⟨wd_79, wd_64, wd_81, by decide +kernel⟩
theorem cb_L_12 : zz_CB RL 12 yX5_init cX5_init 2 none 0 := ⟨wd_667, wd_68, wd_669, by decide +kernel⟩
abbrev lG (p : Program) (e : Env) (s : State) (m : MethodId) (b : Nat) (below : List Frame) (meth : Method) (c : Code) (nc ns : Nat) : zz_X := ((p, e, room_1, s), (m, #[Value.ref b], below, meth, c), (lw_Z below #[Value.ref b] s, (fun q : Nat => s.heap.size ≤ q), nc, ns))
theorem law_hend {β : zz_B} {p : Program} {e : Env} {s : State} {m : MethodId} {bs : Nat} {below : List Frame} {meth : Method} {c : Code} {nc ns : Nat} {ws : va_W} {lv : List (Nat × Value)} (hx : p.tables.exec = Jvm.exec) (hb : c.code = code) (hr : meth.sig.returnType = ret) (hlocks : meth.locks = false) (hc : nc ≤ 600000) (hs : ns ≤ 7302250) : zV β 4 (lG p e s m bs below meth c nc ns) ws 1408 lv [] := by
  intro H locs ls hP hD hS hl
  refine lv_iconst hx hb dL_law_1408 (v := 1) (by decide) ?_
  refine W.widen (k := 600000) (n := 7302250) hc hs ?_
  refine va_forget (fun q hq => hS.2.2 q hq) ?_
  exact lw_ret hx hb hr hlocks dL_law_1409
set_option maxRecDepth 100000 in
set_option maxHeartbeats 4000000 in
theorem law_walk {β : zz_B} {p : Program} {e : Env} {s : State} {m : MethodId} {bs L : Nat} {xs : Nat → Int32} {below : List Frame} {meth : Method} {c : Code} (g : zG β 4 (lG p e s m bs below meth c 0 0) code RL 14 516) (hX : va_X bs L xs s s.heap) (hbl : bs < s.heap.size) (hL : L ≤ 3072) (hx : p.tables.exec = Jvm.exec) (hb : c.code = code) (hr : meth.sig.returnType = ret) (hlocks : meth.locks = false) : zV β 4 (lG p e s m bs below meth c 0 0) [] 0 [(0, .ref bs)] [] := by
  have hk : zK (lG p e s m bs below meth c 0 0) 53 1155 := ⟨Nat.le_of_ble_eq_true rfl, Nat.le_of_ble_eq_true rfl⟩
  refine zv_newo (pc := 0) [.null, .null, .null, .null, .null, .null, .null, .int 0] (fun q => [(q, .inr (3, [.null, .null, .null, .null, .null, .null, .null, .int 0]))]) g (zK.sub (c0 := 1) (c := 52) (k0 := 8) (k := 1147) hk) zinX4 tyX4_ok (ci := 3) rfl wd_77 wd_78 wd_64 df_X4 (fun _ => rfl) dL_law_0 (fun q => ?_)
  have g := zG.more g (zK.sub (c0 := 1) (c := 52) (k0 := 8) (k := 1147) hk)
  have hk := zK.step (c0 := 1) (c := 52) (k0 := 8) (k := 1147) hk
  refine zv_dup (pc := 3) g dL_law_3 rfl ?_
  refine zv_cI (pc := 4) (wc := [(q, .inr (3, [.null, .null, .null, .null, .null, .null, .null, .int 0]))]) (suf := []) g (zK.sub (c0 := 40) (c := 12) (k0 := 538) (k := 609) hk) cb_L_9 wd_80 rfl cn_rounds (by decide) (by decide) (List.Perm.refl _) (Nat.le_of_ble_eq_true rfl) dL_law_4 ?_
  have g := zG.more g (zK.sub (c0 := 40) (c := 12) (k0 := 538) (k := 609) hk)
  have hk := zK.step (c0 := 40) (c := 12) (k0 := 538) (k := 609) hk
  rintro w ⟨bb, rfl, hp⟩
  refine zv_perm (ws2 := xW β bb X0) (by rw [List.append_nil]; exact hp) ?_
  refine zv_astore_n (pc := 7) 1 [(1, .ref (bb 0)), (0, .ref bs)] g dL_law_7 rfl (by decide) rfl ?_
  refine zv_newo (pc := 8) [.null, .null, .null, .null, .null, .int 0, .int 0, .int 0, .int 0, .long 0, .int 0, .int 0, .null, .null, .null, .null, .null, .null, .int 0] (fun q => xW β bb X0 ++ [(q, .inr (4, [.null, .null, .null, .null, .null, .int 0, .int 0, .int 0, .int 0, .long 0, .int 0, .int 0, .null, .null, .null, .null, .null, .null, .int 0]))]) g (zK.sub (c0 := 1) (c := 11) (k0 := 19) (k := 590) hk) zinX5 tyX5_ok (ci := 4) rfl wd_665 wd_666 wd_68 df_X5 (fun _ => rfl) dL_law_8 (fun q => ?_)
  have g := zG.more g (zK.sub (c0 := 1) (c := 11) (k0 := 19) (k := 590) hk)
  have hk := zK.step (c0 := 1) (c := 11) (k0 := 19) (k := 590) hk
  refine zv_dup (pc := 11) g dL_law_11 rfl ?_
  refine zv_cI (pc := 12) (wc := [(q, .inr (4, [.null, .null, .null, .null, .null, .int 0, .int 0, .int 0, .int 0, .long 0, .int 0, .int 0, .null, .null, .null, .null, .null, .null, .int 0]))]) (suf := xW β bb X0) g hk cb_L_12 wd_668 rfl cn_model (by decide) (by decide) List.perm_append_comm (Nat.le_of_ble_eq_true rfl) dL_law_12 ?_
  have g := zG.more g hk
  rintro w ⟨a, rfl, rfl⟩
  refine zv_perm (ws2 := xW β bb X0 ++ mW β a nM8) List.perm_append_comm ?_
  refine zv_astore_n (pc := 15) 2 [(2, .ref (a 0)), (1, .ref (bb 0)), (0, .ref bs)] g dL_law_15 rfl (by decide) rfl ?_
  refine zv_iconst (pc := 16) g dL_law_16 (v := 0) (by decide) ?_
  refine zv_istore_n (pc := 17) 3 [(3, .int 0), (2, .ref (a 0)), (1, .ref (bb 0)), (0, .ref bs)] g dL_law_17 rfl (by decide) rfl ?_
  refine zv_sub (lv2 := [(0, .ref bs), (1, .ref (bb 0)), (2, .ref (a 0)), (3, .int (nI 0))]) [3, 2, 1, 0] rfl ?_
  have g : zG β 4 (lG p e s m bs below meth c (0 + 1 + 40 + 1 + 11) (0 + 8 + 538 + 19 + 590)) code RL 14 516 := g
  show zV β 4 (lG p e s m bs below meth c (0 + 1 + 40 + 1 + 11) (0 + 8 + 538 + 19 + 590)) (xW β bb X0 ++ mW β a nM8) 18 [(0, .ref bs), (1, .ref (bb 0)), (2, .ref (a 0)), (3, .int (nI 0))] []
  exact law_loop g hX hbl hL (fun X M i => law_hend hx hb hr hlocks (by decide) (by decide)) (L + 7) 0 X0 nM8 rel0 (by omega) (by omega)
/-- from the entry, for every script of at most 3072 ints, the law comes to its end with true -/
theorem whole_start {p : Program} {e : Env} {s : State} {m : MethodId} {below : List Frame} {meth : Method} {c : Code} (l : Launch) (hflags : l.flags = flags0) {b L : Nat} {xs : Nat → Int32} (hL : L ≤ 3072) (C0 : lw_At p s m meth c b L xs) : W p l e room_1 s m #[Value.ref b] below meth c s.heap [] 0 0 (lw_Z below #[Value.ref b] s) (entryFrame m ([Value.ref b] : List Value).toArray 4) := by
  obtain ⟨z, hK, hE⟩ := at_known C0
  obtain ⟨hx, hb, hr, hml, hown, hts, hX, hbl, hlocks, hgv⟩ := id C0
  have ht : ∀ w ∈ zT, w.before #[Value.ref b] s = true := fun w hw => hts w (zT_sub w hw)
  have hl := lv_entry ([.ref b]) (n := 4) (Nat.le_of_ble_eq_true rfl)
  rw [lg_entry_eq]
  have g : zG (l, z) 4 (lG p e s m b below meth c 0 0) code RL 14 516 := ⟨hx, hb, hml, hown, ht, hK, hlocks, fun _ h => h, ⟨Nat.le_refl _, Nat.le_refl _⟩, ⟨Nat.zero_le _, Nat.zero_le _⟩, hE⟩
  exact law_walk g hX hbl hL hx hb hr hlocks s.heap [] _ (fun k q h => by simp at h) ⟨fun i j p q h => by simp at h, fun k q h => by simp at h⟩ va_S.rf hl
