/-! houses: what holds of one, and what goes on in it -/
def zS (S : HSt) : Prop := (∀ i, 8 ≤ i → h_dust S i = 0) ∧ (∀ i, 8 ≤ i → h_memories S i = 0) ∧ (∀ i, 8 ≤ i → h_kinds S i = 0) ∧ (∀ i, 8 ≤ i → h_held S i = 0) ∧ (∀ i, 8 ≤ i → h_grimes S i = 0) ∧ (∀ i, 8 ≤ i → h_rounds S i = 0)
def okS (D : Nat) (S : HSt) : Prop := (∀ i, Rg 99 (h_dust S i)) ∧ (∀ i, Rg 1023 (h_memories S i)) ∧ (∀ i, Rg 5 (h_kinds S i)) ∧ (∀ i, Rg 1023 (h_held S i)) ∧ (∀ i, Rg 99 (h_grimes S i)) ∧ (∀ i, Rg 7 (h_rounds S i)) ∧ Rg D (h_day S) ∧ Rg 20 (h_fall S) ∧ Rg 8 (h_dusters S) ∧ zS S
theorem okS.dust {D : Nat} {S : HSt} (h : okS D S) (i : Nat) : Rg 99 (h_dust S i) := h.1 i
theorem okS.mem {D : Nat} {S : HSt} (h : okS D S) (i : Nat) : Rg 1023 (h_memories S i) := h.2.1 i
theorem okS.kind {D : Nat} {S : HSt} (h : okS D S) (i : Nat) : Rg 5 (h_kinds S i) := h.2.2.1 i
theorem okS.held {D : Nat} {S : HSt} (h : okS D S) (i : Nat) : Rg 1023 (h_held S i) := h.2.2.2.1 i
theorem okS.grime {D : Nat} {S : HSt} (h : okS D S) (i : Nat) : Rg 99 (h_grimes S i) := h.2.2.2.2.1 i
theorem okS.round {D : Nat} {S : HSt} (h : okS D S) (i : Nat) : Rg 7 (h_rounds S i) := h.2.2.2.2.2.1 i
theorem okS.day {D : Nat} {S : HSt} (h : okS D S) : Rg D (h_day S) := h.2.2.2.2.2.2.1
theorem okS.fall {D : Nat} {S : HSt} (h : okS D S) : Rg 20 (h_fall S) := h.2.2.2.2.2.2.2.1
theorem okS.many {D : Nat} {S : HSt} (h : okS D S) : Rg 8 (h_dusters S) := h.2.2.2.2.2.2.2.2.1
theorem okS.z {D : Nat} {S : HSt} (h : okS D S) : zS S := h.2.2.2.2.2.2.2.2.2
theorem okS.up {D E : Nat} {S : HSt} (h : okS D S) (hE : D ≤ E) : okS E S := by
  obtain ⟨h1, h2, h3, h4, h5, h6, h7, h8⟩ := h
  exact ⟨h1, h2, h3, h4, h5, h6, h7.up hE, h8⟩
/-! changes of one field -/
theorem okS.set_dust {D : Nat} {S : HSt} (h : okS D S) {k : Nat} {v : Int32} (hk : k < 8) (hv : Rg 99 v) : okS D (h_dust_s S (upd (h_dust S) k v)) := by
  obtain ⟨h1, h2, h3, h4, h5, h6, h7, h8, h9, z1, z2⟩ := h
  exact ⟨upd_all h1 hv, h2, h3, h4, h5, h6, h7, h8, h9, upd_z hk z1, z2⟩
theorem okS.set_memories {D : Nat} {S : HSt} (h : okS D S) {k : Nat} {v : Int32} (hk : k < 8) (hv : Rg 1023 v) : okS D (h_memories_s S (upd (h_memories S) k v)) := by
  obtain ⟨h1, h2, h3, h4, h5, h6, h7, h8, h9, z1, z2, z3⟩ := h
  exact ⟨h1, upd_all h2 hv, h3, h4, h5, h6, h7, h8, h9, z1, upd_z hk z2, z3⟩
theorem okS.set_kinds {D : Nat} {S : HSt} (h : okS D S) {k : Nat} {v : Int32} (hk : k < 8) (hv : Rg 5 v) : okS D (h_kinds_s S (upd (h_kinds S) k v)) := by
  obtain ⟨h1, h2, h3, h4, h5, h6, h7, h8, h9, z1, z2, z3, z4⟩ := h
  exact ⟨h1, h2, upd_all h3 hv, h4, h5, h6, h7, h8, h9, z1, z2, upd_z hk z3, z4⟩
theorem okS.set_held {D : Nat} {S : HSt} (h : okS D S) {k : Nat} {v : Int32} (hk : k < 8) (hv : Rg 1023 v) : okS D (h_held_s S (upd (h_held S) k v)) := by
  obtain ⟨h1, h2, h3, h4, h5, h6, h7, h8, h9, z1, z2, z3, z4, z5⟩ := h
  exact ⟨h1, h2, h3, upd_all h4 hv, h5, h6, h7, h8, h9, z1, z2, z3, upd_z hk z4, z5⟩
theorem okS.set_grimes {D : Nat} {S : HSt} (h : okS D S) {k : Nat} {v : Int32} (hk : k < 8) (hv : Rg 99 v) : okS D (h_grimes_s S (upd (h_grimes S) k v)) := by
  obtain ⟨h1, h2, h3, h4, h5, h6, h7, h8, h9, z1, z2, z3, z4, z5, z6⟩ := h
  exact ⟨h1, h2, h3, h4, upd_all h5 hv, h6, h7, h8, h9, z1, z2, z3, z4, upd_z hk z5, z6⟩
theorem okS.set_rounds {D : Nat} {S : HSt} (h : okS D S) {k : Nat} {v : Int32} (hk : k < 8) (hv : Rg 7 v) : okS D (h_rounds_s S (upd (h_rounds S) k v)) := by
  obtain ⟨h1, h2, h3, h4, h5, h6, h7, h8, h9, z1, z2, z3, z4, z5, z6⟩ := h
  exact ⟨h1, h2, h3, h4, h5, upd_all h6 hv, h7, h8, h9, z1, z2, z3, z4, z5, upd_z hk z6⟩
theorem okS.set_day {D E : Nat} {S : HSt} (h : okS D S) {v : Int32} (hv : Rg E v) : okS E (h_day_s S v) := by
  obtain ⟨h1, h2, h3, h4, h5, h6, h7, h8⟩ := h
  exact ⟨h1, h2, h3, h4, h5, h6, hv, h8⟩
theorem okS.set_fall {D : Nat} {S : HSt} (h : okS D S) {v : Int32} (hv : Rg 20 v) : okS D (h_fall_s S v) := by
  obtain ⟨h1, h2, h3, h4, h5, h6, h7, h8, h9⟩ := h
  exact ⟨h1, h2, h3, h4, h5, h6, h7, hv, h9⟩
theorem okS.set_dusters {D : Nat} {S : HSt} (h : okS D S) {v : Int32} (hv : Rg 8 v) : okS D (h_dusters_s S v) := by
  obtain ⟨h1, h2, h3, h4, h5, h6, h7, h8, h9, h10⟩ := h
  exact ⟨h1, h2, h3, h4, h5, h6, h7, h8, hv, h10⟩
/-! where one is -/
def whN (S : HSt) (d : Nat) : Nat := ((h_day S).toNatClampNeg + (h_rounds S d).toNatClampNeg) % 8
theorem whN_lt (S : HSt) (d : Nat) : whN S d < 8 := Nat.mod_lt _ (by decide)
theorem s0_whereIs {post : Int32 → Prop} {D : Nat} {S : HSt} {d : Nat} (hD : D < 2 ^ 20) (ok : okS D S) (hd : d < 8) (h : post (nI (whN S d))) : wX0_whereIs post S (nI d) := by
  unfold wX0_whereIs
  unfold whN at h
  rw [c8 hd]
  refine ⟨v8 hd, ?_⟩
  obtain ⟨a, ha, ea⟩ := ok.day
  obtain ⟨b, hb, eb⟩ := ok.round d
  rw [ea, eb, nI_clamp (by omega), nI_clamp (by omega)] at h
  rw [ea, eb, nI_add, pk_andN (n := a + b) (by omega) 3 (by decide)]
  exact h
theorem s5_roomOfOne {post : Int32 → Prop} {D : Nat} {M : MSt} {d : Nat} (hD : D < 2 ^ 20) (ok : okS D (rowH (m_row M))) (hd : d < 8) (h : post (nI (whN (rowH (m_row M)) d))) : wX5_roomOfOne post M (nI d) := by
  refine ⟨vp0, s5_its_rounds hd ?_⟩
  rw [cl0]
  show post ((h_day (rowH (m_row M)) + h_rounds (rowH (m_row M)) d) - (h_day (rowH (m_row M)) + h_rounds (rowH (m_row M)) d) / nI 8 * nI 8)
  unfold whN at h
  obtain ⟨a, ha, ea⟩ := ok.day
  obtain ⟨b, hb, eb⟩ := ok.round d
  rw [ea, eb, nI_clamp (by omega), nI_clamp (by omega)] at h
  rw [ea, eb, nI_add, pk_rem (by omega) (by decide) (by decide)]
  exact h
/-! one goes through a room -/
def gtT (S : HSt) (d r : Nat) : Int32 := lst (h_memories S r &&& (h_held S d ^^^ (-1))) (kTakes (h_kinds S d) (h_grimes S d)).toNatClampNeg
def gtL (S : HSt) (d r : Nat) : Int32 := lst (h_held S d &&& (h_memories S r ^^^ (-1))) (kLeaves (h_kinds S d) (h_grimes S d)).toNatClampNeg
def gtW (S : HSt) (d r : Nat) : Int32 := if kWipes (h_kinds S d) (h_grimes S d) < h_dust S r then kWipes (h_kinds S d) (h_grimes S d) else h_dust S r
def gtH (S : HSt) (d r : Nat) : Int32 := (h_held S d ||| gtT S d r) &&& ((if kKeeps (h_kinds S d) (h_held S d) then 0 else gtL S d r) ^^^ (-1))
def gtG (S : HSt) (d r : Nat) : Int32 := if h_grimes S d + gtW S d r / 2 < 99 then h_grimes S d + gtW S d r / 2 else 99
def gtS (S : HSt) (d r : Nat) : HSt := h_grimes_s (h_dust_s (h_memories_s (h_held_s S (upd (h_held S) d (gtH S d r))) (upd (h_memories S) r ((h_memories S r &&& (gtT S d r ^^^ (-1))) ||| gtL S d r))) (upd (h_dust S) r (h_dust S r - gtW S d r))) (upd (h_grimes S) d (gtG S d r))
theorem s0_goThrough {post : Int32 → HSt → Prop} {D : Nat} {S : HSt} {d r : Nat} (ok : okS D S) (hd : d < 8) (hr : r < 8) (h : post (gtW S d r) (gtS S d r)) : wX0_goThrough post S (nI d) (nI r) := by
  unfold wX0_goThrough
  simp only [c8 hd, c8 hr, forall_eq]
  refine ⟨v8 hd, v8 hd, v8 hd, v8 hr, ?_⟩
  refine s1_takesUp (ok.kind d) (s0_leastOf (Rg_kTakes (ok.kind d) (ok.grime d)) ?_)
  refine s1_leaves (ok.kind d) (s0_leastOf (Rg_kLeaves (ok.kind d) (ok.grime d)) ⟨v8 hr, ?_⟩)
  refine s1_wipes (ok.kind d) (s1_keeps ?_)
  have key : ∀ (v : Int32), v = (if kKeeps (h_kinds S d) (h_held S d) then 0 else gtL S d r) → wX0_goThrough_99 post S (nI d) (nI r) (h_grimes S d) (h_held S d) (h_memories S r) (gtT S d r) (gtL S d r) (gtW S d r) v := by
    intro v ev
    subst ev
    unfold wX0_goThrough_99
    simp only [c8 hd, c8 hr, forall_eq]
    exact ⟨v8 hd, v8 hr, v8 hr, v8 hr, v8 hd, h⟩
  cases hk : kKeeps (h_kinds S d) (h_held S d)
  · exact br_t rfl (key _ (by rw [hk]; rfl))
  · exact br_f (by decide) (key _ (by rw [hk]; rfl))
theorem Rg_lst {s : Int32} {n : Nat} (h : Rg 1023 s) : Rg 1023 (lst s n) := Rg_and h
theorem gt_fin : ∀ a, a < 100 → ∀ w, w < 25 → (if nI w < nI a then nI w else nI a).toBitVec.toNat ≤ 24 ∧ (nI a - (if nI w < nI a then nI w else nI a)).toBitVec.toNat ≤ 99 := by decide +kernel
theorem gg_fin : ∀ a, a < 100 → ∀ w, w < 25 → (if nI a + nI w / 2 < 99 then nI a + nI w / 2 else 99).toBitVec.toNat ≤ 99 ∧ (0 ≤ nI a + nI w / 2) := by decide +kernel
theorem gtW_Rg {D : Nat} {S : HSt} (ok : okS D S) (d r : Nat) : Rg 24 (gtW S d r) ∧ Rg 99 (h_dust S r - gtW S d r) := by
  unfold gtW
  obtain ⟨w, hw, ew⟩ := Rg_kWipes (ok.kind d) (ok.grime d)
  obtain ⟨a, ha, ea⟩ := ok.dust r
  rw [ew, ea]
  have f := gt_fin a (by omega) w (by omega)
  exact ⟨Rg_bv f.1, Rg_bv f.2⟩
theorem gtG_Rg {D : Nat} {S : HSt} (ok : okS D S) (d r : Nat) : Rg 99 (gtG S d r) ∧ 0 ≤ h_grimes S d + gtW S d r / 2 := by
  unfold gtG
  obtain ⟨w, hw, ew⟩ := (gtW_Rg ok d r).1
  obtain ⟨a, ha, ea⟩ := ok.grime d
  rw [ew, ea]
  have f := gg_fin a (by omega) w (by omega)
  exact ⟨Rg_bv f.1, f.2⟩
theorem okS.gt {D : Nat} {S : HSt} (ok : okS D S) {d r : Nat} (hd : d < 8) (hr : r < 8) : okS D (gtS S d r) := by
  have hT : Rg 1023 (gtT S d r) := Rg_lst (Rg_and (ok.mem r))
  have hL : Rg 1023 (gtL S d r) := Rg_lst (Rg_and (ok.held d))
  have k1 := ok.set_held hd (v := gtH S d r) (Rg_and (Rg_or (ok.held d) hT))
  have k2 := k1.set_memories hr (v := (h_memories S r &&& (gtT S d r ^^^ (-1))) ||| gtL S d r) (Rg_or (Rg_and (ok.mem r)) hL)
  have k3 := k2.set_dust hr (v := h_dust S r - gtW S d r) (gtW_Rg ok d r).2
  exact k3.set_grimes hd (v := gtG S d r) (gtG_Rg ok d r).1
theorem bit_eq {x y : Int32} (h : ∀ i, x.toBitVec.getLsbD i = y.toBitVec.getLsbD i) : x = y := Int32.toBitVec_inj.mp (BitVec.eq_of_getLsbD_eq (fun i _ => h i))
theorem bx_and (x y : Int32) (i : Nat) : (x &&& y).toBitVec.getLsbD i = (x.toBitVec.getLsbD i && y.toBitVec.getLsbD i) := BitVec.getLsbD_and
theorem bx_or (x y : Int32) (i : Nat) : (x ||| y).toBitVec.getLsbD i = (x.toBitVec.getLsbD i || y.toBitVec.getLsbD i) := BitVec.getLsbD_or
theorem bx_not (x : Int32) (i : Nat) : (x ^^^ (-1)).toBitVec.getLsbD i = (decide (i < 32) && !x.toBitVec.getLsbD i) := by
  rw [show (x ^^^ (-1)).toBitVec = x.toBitVec ^^^ BitVec.allOnes 32 from rfl, BitVec.getLsbD_xor, BitVec.getLsbD_allOnes]
  by_cases c : i < 32
  · simp [c]
  · simp [c, BitVec.getLsbD_of_ge x.toBitVec i (by omega)]
theorem gtH_keep (S : HSt) (d r : Nat) (h : kKeeps (h_kinds S d) (h_held S d) = true) : h_held S d ||| gtT S d r = gtH S d r := by
  unfold gtH
  rw [h]
  apply bit_eq
  intro i
  rw [bx_and, if_pos rfl, bx_not]
  by_cases c : i < 32
  · simp [c]
  · rw [BitVec.getLsbD_of_ge _ i (by omega), Bool.false_and]
theorem gtH_lose (S : HSt) (d r : Nat) (h : kKeeps (h_kinds S d) (h_held S d) = false) : (h_held S d &&& (gtL S d r ^^^ (-1))) ||| gtT S d r = gtH S d r := by
  unfold gtH gtT gtL lst
  rw [h]
  generalize clr _ (h_memories S r &&& (h_held S d ^^^ (-1))) = a
  generalize clr _ (h_held S d &&& (h_memories S r ^^^ (-1))) = b
  apply bit_eq
  intro i
  simp only [bx_and, bx_or, bx_not, Bool.false_eq_true, if_false]
  by_cases c : i < 32
  · simp only [c, decide_true, Bool.true_and]
    cases (h_held S d).toBitVec.getLsbD i <;> cases (h_memories S r).toBitVec.getLsbD i <;> cases a.toBitVec.getLsbD i <;> cases b.toBitVec.getLsbD i <;> rfl
  · simp [c]
theorem s5_held_gt {post : Int32 → Prop} {v : Int32} (h0 : 0 ≤ v) (h : post (if v < 99 then v else 99)) : wX5_held post v 0 99 := by
  refine br_t h0 (br_c (fun c => ?_) (fun c => ?_))
  · by_cases q : v < 99
    · rw [if_pos q] at h; exact h
    · rw [if_neg q] at h
      have e : v = 99 := Int32.le_antisymm c (Int32.not_lt.mp q)
      rw [e]; exact h
  · rw [if_neg (fun q => c (Int32.le_of_lt q))] at h
    exact h
theorem s5_goes {post : Int32 → MSt → Prop} {D : Nat} {M : MSt} {d r : Nat} (ok : okS D (rowH (m_row M))) (hd : d < 8) (hr : r < 8) (h : ∀ q, rowH q = gtS (rowH (m_row M)) d r → post (gtW (rowH (m_row M)) d r) (m_row_s M q)) : wX5_goes post M (nI d) (nI r) := by
  have key2 : ∀ s0 : Int32, s0 ||| gtT (rowH (m_row M)) d r = gtH (rowH (m_row M)) d r → wX5_goes_102 post M (nI d) (nI r) (h_memories (rowH (m_row M)) r) (gtT (rowH (m_row M)) d r) (gtL (rowH (m_row M)) d r) (gtW (rowH (m_row M)) d r) s0 1 (nI d) := by
    intro s0 e0
    unfold wX5_goes_102
    rw [e0]
    refine s5_puts_held hd (fun q1 e1 => ?_)
    refine s5_places_memories hr (fun q2 e2 => ?_)
    replace e2 : rowH q2 = h_memories_s (rowH q1) (upd (h_memories (rowH q1)) r _) := e2
    refine s5_there_dust hr ?_
    refine s5_places_dust hr (fun q3 e3 => ?_)
    replace e3 : rowH q3 = h_dust_s (rowH q2) (upd (h_dust (rowH q2)) r (h_dust (rowH q2) r - gtW (rowH (m_row M)) d r)) := e3
    refine s5_its_grimes hd ?_
    show wX5_held _ (h_grimes (rowH q3) d + _) 0 99
    have g3 : h_grimes (rowH q3) = h_grimes (rowH (m_row M)) := by rw [e3, e2, e1]; rfl
    rw [g3]
    refine s5_held_gt (gtG_Rg ok d r).2 ?_
    refine s5_puts_grimes hd (fun q4 e4 => ?_)
    replace e4 : rowH q4 = h_grimes_s (rowH q3) (upd (h_grimes (rowH q3)) d _) := e4
    refine h q4 ?_
    rw [e4, e3, e2, e1]
    rfl
  have key1 : ∀ v, v = gtW (rowH (m_row M)) d r → wX5_goes_75 post M (nI d) (nI r) (h_held (rowH (m_row M)) d) (h_memories (rowH (m_row M)) r) (gtT (rowH (m_row M)) d r) (gtL (rowH (m_row M)) d r) v := by
    intro v ev
    subst ev
    refine s5_isKeeping hd (ok.held d) ?_
    cases hk : kKeeps (h_kinds (rowH (m_row M)) d) (h_held (rowH (m_row M)) d)
    · exact br_t rfl (key2 _ (gtH_lose _ d r hk))
    · exact br_f (by decide) (key2 _ (gtH_keep _ d r hk))
  refine s5_its_held hd (s5_there_memories hr (s5_takesUp hd (ok.kind d) (s5_least (Rg_kTakes (ok.kind d) (ok.grime d)) ?_)))
  refine s5_leaves hd (ok.kind d) (ok.grime d) (s5_least (Rg_kLeaves (ok.kind d) (ok.grime d)) ?_)
  refine s5_wipes hd (ok.kind d) (ok.grime d) (s5_there_dust hr (br_c (fun c => ?_) (fun c => ?_)))
  · refine s5_there_dust hr (key1 _ ?_)
    unfold gtW
    rw [if_neg (Int32.not_lt.mpr c)]
  · refine s5_wipes hd (ok.kind d) (ok.grime d) (key1 _ ?_)
    unfold gtW
    rw [if_pos (Int32.not_le.mp c)]
