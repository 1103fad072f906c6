section Ops3
variable {X : XSt} {M : MSt}
/-! looking ahead -/
theorem s4_become {post : HSt × HSt → Prop} {A : HSt} (R : Rel X M) (z : zS A) (h : post (x_live X, x_live X)) : wX0_becomeAs post (A, x_live X) := s0_becomeAs z R.ok.z h
theorem s4_lookAhead {post : XSt → Prop} {n : Nat} (R : Rel X M) (hn : n ≤ 100) (h : post (x_ahead_s X (nDay n (x_live X)))) : wX4_lookAhead post X (nI n) := by
  refine s0_becomeAs R.za R.ok.z (fun S2 e2 => ?_)
  subst e2
  refine s0_goDays (D := 9999) (S := x_live X) (by omega) R.ok (fun S4 e4 => ?_)
  subst e4
  exact h
theorem s5_behind {post : Int32 → MSt → Prop} {n a : Nat} (ok : okS 9999 (rowH (m_row M))) (hn : n ≤ 100) (ha : a < 51) (h : ∀ t q q1, rowH q = rowH (m_row M) → rowH q1 = nDay n (rowH (m_row M)) → post (q1 a) (m_row_s (m_tried_s M t) q)) : wX5_behind post M (nI n) (nI a) := by
  refine s5_save_tried (fun t et => s5_passes (D := 9999) (M := m_tried_s M t) (by omega) ok (fun q1 e1 => ⟨vp_in_nI ha (by decide), fun y ey => s5_back_tried (fun q eq => ?_)⟩))
  rw [nI_clamp (by omega)] at ey
  subst ey
  exact h t q q1 (eq.trans et) e1
theorem op_on (R : Rel X M) (r n w : Int32) : wX4_on (fun a T => wX5_on (fun b N => a = b ∧ Rel T N) M r n w) X r n w := by
  by_cases c : ∃ j, j < 8 ∧ r = nI j
  · obtain ⟨j, hj, rfl⟩ := c
    refine s4_isRoom_t hj (br_f (by decide) ?_)
    by_cases cn : 0 ≤ n ∧ n ≤ 100
    · refine s4_in_t cn.1 cn.2 (br_f (by decide) ?_)
      by_cases cw : 0 ≤ w ∧ w ≤ 1
      · obtain ⟨m, hm, rfl⟩ := in_of (n := 100) (by decide) cn
        have z := (R.ok.dayN m (by omega)).z
        refine s4_in_t cw.1 cw.2 (bn_f (by decide) (s4_lookAhead R hm ?_))
        rw [c8 hj]
        refine ⟨fun w0 => ⟨v8 hj, ?_⟩, fun w0 => ⟨v8 hj, ?_⟩⟩
        · have w1 : w = 1 := by
            obtain ⟨i, hi, rfl⟩ := in_of (n := 1) (by decide) cw
            rcases (by omega : i = 0 ∨ i = 1) with rfl | rfl
            · exact absurd rfl w0
            · rfl
          subst w1
          refine s5_isRoom_t hj (br_f (by decide) (s5_in_t cn.1 cn.2 (br_f (by decide) (s5_in_t cw.1 cw.2 (br_f (by decide) ?_)))))
          rw [ix_memories]
          refine s5_behind R.ok5 hm (by omega) (fun t q q1 eq e1 => ⟨?_, ((R.ahead z).tried t).row eq⟩)
          rw [rowH_memories (r := q1) hj, e1, ← R.eL]
          rfl
        · subst w0
          refine s5_isRoom_t hj (br_f (by decide) (s5_in_t cn.1 cn.2 (br_f (by decide) (s5_in_t cw.1 cw.2 (br_f (by decide) ?_)))))
          rw [ix_dust]
          refine s5_behind R.ok5 hm (by omega) (fun t q q1 eq e1 => ⟨?_, ((R.ahead z).tried t).row eq⟩)
          rw [rowH_dust (r := q1) hj, e1, ← R.eL]
          rfl
      · exact s4_in_f cw (bn_t rfl (s4_finding_BEYOND (s5_isRoom_t hj (br_f (by decide) (s5_in_t cn.1 cn.2 (br_f (by decide) (s5_in_f cw (br_t rfl (s5_finds_BEYOND ⟨rfl, R.found 0⟩)))))))))
    · exact s4_in_f cn (br_t rfl (s4_finding_BEYOND (s5_isRoom_t hj (br_f (by decide) (s5_in_f cn (br_t rfl (s5_finds_BEYOND ⟨rfl, R.found 0⟩)))))))
  · exact s4_isRoom_f c (br_t rfl (s4_finding_BEYOND (s5_isRoom_f c (br_t rfl (s5_finds_BEYOND ⟨rfl, R.found 0⟩)))))
theorem op_then (R : Rel X M) (d n w : Int32) : wX4_then (fun a T => wX5_then (fun b N => a = b ∧ Rel T N) M d n w) X d n w := by
  obtain ⟨k, hk, e4, e5⟩ := R.many
  by_cases c : ∃ j, j < k ∧ d = nI j
  · obtain ⟨j, hj, rfl⟩ := c
    have hj8 : j < 8 := by omega
    refine s4_isDuster_t hk e4 hj (br_f (by decide) ?_)
    by_cases cn : 0 ≤ n ∧ n ≤ 100
    · refine s4_in_t cn.1 cn.2 (br_f (by decide) ?_)
      by_cases cw : 0 ≤ w ∧ w ≤ 1
      · obtain ⟨m, hm, rfl⟩ := in_of (n := 100) (by decide) cn
        have z := (R.ok.dayN m (by omega)).z
        refine s4_in_t cw.1 cw.2 (bn_f (by decide) (s4_lookAhead R hm ?_))
        rw [c8 hj8]
        refine ⟨fun w0 => ⟨v8 hj8, ?_⟩, fun w0 => ⟨v8 hj8, ?_⟩⟩
        · have w1 : w = 1 := by
            obtain ⟨i, hi, rfl⟩ := in_of (n := 1) (by decide) cw
            rcases (by omega : i = 0 ∨ i = 1) with rfl | rfl
            · exact absurd rfl w0
            · rfl
          subst w1
          refine s5_isOne_t hk e5 hj (br_f (by decide) (s5_in_t cn.1 cn.2 (br_f (by decide) (s5_in_t cw.1 cw.2 (br_f (by decide) ?_)))))
          rw [show ((19 + (4 * nI j)) + 1 + 1 : Int32) = nI (21 + 4 * j) from by rw [ix_held, nI_1]; exact congrArg nI (by omega)]
          refine s5_behind R.ok5 hm (by omega) (fun t q q1 eq e1 => ⟨?_, ((R.ahead z).tried t).row eq⟩)
          rw [rowH_grimes (r := q1) hj8, e1, ← R.eL]
          rfl
        · subst w0
          refine s5_isOne_t hk e5 hj (br_f (by decide) (s5_in_t cn.1 cn.2 (br_f (by decide) (s5_in_t cw.1 cw.2 (br_f (by decide) ?_)))))
          rw [show ((19 + (4 * nI j)) + 1 + 0 : Int32) = nI (20 + 4 * j) from by rw [ix_held]; exact Int32.add_zero _]
          refine s5_behind R.ok5 hm (by omega) (fun t q q1 eq e1 => ⟨?_, ((R.ahead z).tried t).row eq⟩)
          rw [rowH_held (r := q1) hj8, e1, ← R.eL]
          rfl
      · exact s4_in_f cw (bn_t rfl (s4_finding_BEYOND (s5_isOne_t hk e5 hj (br_f (by decide) (s5_in_t cn.1 cn.2 (br_f (by decide) (s5_in_f cw (br_t rfl (s5_finds_BEYOND ⟨rfl, R.found 0⟩)))))))))
    · exact s4_in_f cn (br_t rfl (s4_finding_BEYOND (s5_isOne_t hk e5 hj (br_f (by decide) (s5_in_f cn (br_t rfl (s5_finds_BEYOND ⟨rfl, R.found 0⟩)))))))
  · exact s4_isDuster_f hk e4 c (br_t rfl (s4_finding_BEYOND (s5_isOne_f hk e5 c (br_t rfl (s5_finds_BEYOND ⟨rfl, R.found 0⟩)))))
/-! the first day on which something holds -/
def fst1 (p : Nat → Bool) : Nat → Nat → Option Nat
  | 0, _ => none
  | c + 1, i => if p i then some i else fst1 p c (i + 1)
def pClean (L : HSt) (r : Nat) (n : Nat) : Bool := decide (h_dust (nDay n L) r = 0)
def pMem (L : HSt) (r : Nat) (m : Int32) (n : Nat) : Bool := decide (¬ (((h_memories (nDay n L) r) >>> (m &&& 31)) &&& 1) = 0)
def pHeld (L : HSt) (d : Nat) (m : Int32) (n : Nat) : Bool := decide (¬ (((h_held (nDay n L) d) >>> (m &&& 31)) &&& 1) = 0)

theorem s4_clean_l {post : Int32 → XSt → Prop} (o : Option Nat) (L : HSt) {d : Nat} (hd : d < 8) (okL : okS 9999 L) (hs : ∀ A n, zS A → o = some n → post (nI n) (x_ahead_s X A)) (hn : ∀ A, zS A → o = none → wX4_finding post (x_ahead_s X A) (-1000000004)) : ∀ (c i : Nat), i + c = 101 → o = fst1 (pClean L d) c i → wX4_clean_27 post (c + 1) (x_ahead_s X (nDay i L)) (nI d) (nI i) := by
  intro c
  induction c with
  | zero =>
    intro i e h
    rw [wX4_clean_27]
    exact br_t (nI_lt (a := 100) (by omega) (by omega)) (hn _ (okL.dayN i (by omega)).z h)
  | succ c ih =>
    intro i e h
    rw [wX4_clean_27]
    rw [c8 hd]
    refine br_f (nI_nlt (b := i) (a := 100) (by omega) (by omega)) ⟨v8 hd, ?_⟩
    rw [fst1] at h
    by_cases q : h_dust (nDay i L) d = 0
    · rw [if_pos (by simpa [pClean] using q)] at h
      exact bn_t q (hs _ i (okL.dayN i (by omega)).z h)
    · rw [if_neg (by simpa [pClean] using q)] at h
      refine bn_f q (s0_goDay (D := 9999 + i) (S := nDay i L) (by omega) (okL.dayN i (by omega)) (fun S2 e2 => ?_))
      subst e2
      rw [← nDay_s, ← nI_succ]
      exact ih (i + 1) (by omega) h
theorem s4_comes_l {post : Int32 → XSt → Prop} (o : Option Nat) (L : HSt) {d : Nat} (hd : d < 8) (m : Int32) (okL : okS 9999 L) (hs : ∀ A n, zS A → o = some n → post (nI n) (x_ahead_s X A)) (hn : ∀ A, zS A → o = none → wX4_finding post (x_ahead_s X A) (-1000000004)) : ∀ (c i : Nat), i + c = 101 → o = fst1 (pMem L d m) c i → wX4_firstWith_memories_14 post (c + 1) (x_ahead_s X (nDay i L)) (nI d) m (nI i) := by
  intro c
  induction c with
  | zero =>
    intro i e h
    rw [wX4_firstWith_memories_14]
    exact br_t (nI_lt (a := 100) (by omega) (by omega)) (hn _ (okL.dayN i (by omega)).z h)
  | succ c ih =>
    intro i e h
    rw [wX4_firstWith_memories_14]
    rw [c8 hd]
    refine br_f (nI_nlt (b := i) (a := 100) (by omega) (by omega)) ⟨v8 hd, ?_⟩
    rw [fst1] at h
    by_cases q : ¬ (((h_memories (nDay i L) d) >>> (m &&& 31)) &&& 1) = 0
    · rw [if_pos (by simpa [pMem] using q)] at h
      exact br_f q (hs _ i (okL.dayN i (by omega)).z h)
    · rw [if_neg (by simpa [pMem] using q)] at h
      refine br_t (Classical.not_not.mp q) (s0_goDay (D := 9999 + i) (S := nDay i L) (by omega) (okL.dayN i (by omega)) (fun S2 e2 => ?_))
      subst e2
      rw [← nDay_s, ← nI_succ]
      exact ih (i + 1) (by omega) h
theorem s4_holds_l {post : Int32 → XSt → Prop} (o : Option Nat) (L : HSt) {d : Nat} (hd : d < 8) (m : Int32) (okL : okS 9999 L) (hs : ∀ A n, zS A → o = some n → post (nI n) (x_ahead_s X A)) (hn : ∀ A, zS A → o = none → wX4_finding post (x_ahead_s X A) (-1000000004)) : ∀ (c i : Nat), i + c = 101 → o = fst1 (pHeld L d m) c i → wX4_firstWith_held_14 post (c + 1) (x_ahead_s X (nDay i L)) (nI d) m (nI i) := by
  intro c
  induction c with
  | zero =>
    intro i e h
    rw [wX4_firstWith_held_14]
    exact br_t (nI_lt (a := 100) (by omega) (by omega)) (hn _ (okL.dayN i (by omega)).z h)
  | succ c ih =>
    intro i e h
    rw [wX4_firstWith_held_14]
    rw [c8 hd]
    refine br_f (nI_nlt (b := i) (a := 100) (by omega) (by omega)) ⟨v8 hd, ?_⟩
    rw [fst1] at h
    by_cases q : ¬ (((h_held (nDay i L) d) >>> (m &&& 31)) &&& 1) = 0
    · rw [if_pos (by simpa [pHeld] using q)] at h
      exact br_f q (hs _ i (okL.dayN i (by omega)).z h)
    · rw [if_neg (by simpa [pHeld] using q)] at h
      refine br_t (Classical.not_not.mp q) (s0_goDay (D := 9999 + i) (S := nDay i L) (by omega) (okL.dayN i (by omega)) (fun S2 e2 => ?_))
      subst e2
      rw [← nDay_s, ← nI_succ]
      exact ih (i + 1) (by omega) h
theorem s5_clean_l {post : Int32 → MSt → Prop} {N : MSt} (o : Option Nat) (L : HSt) {d : Nat} (hd : d < 8) (okL : okS 9999 L) (hs : ∀ q n, rowH q = rowH (m_tried N) → o = some n → post (nI n) (m_row_s N q)) (hn : ∀ q, rowH q = rowH (m_tried N) → o = none → wX5_finds post (m_row_s N q) (-1000000004)) : ∀ (c i : Nat) (q : Nat → Int32), rowH q = nDay i L → i + c = 101 → o = fst1 (pClean L d) c i → wX5_clean_25 post (c + 1) (m_row_s N q) (nI d) (nI i) := by
  intro c
  induction c with
  | zero =>
    intro i q0 eq e h
    rw [wX5_clean_25]
    obtain rfl : i = 101 := by omega
    exact br_t (by decide) (s5_back_tried (fun q2 e2 => br_f (by decide) (hn q2 e2 h)))
  | succ c ih =>
    intro i q0 eq e h
    rw [wX5_clean_25]
    refine br_f (nI_nlt (b := i) (a := 100) (by omega) (by omega)) ?_
    rw [fst1] at h
    have stop : o = some i → wX5_clean_50 post (m_row_s N q0) (nI i) := fun h0 => s5_back_tried (fun q2 e2 => br_t (nI_le (b := 100) (by omega) (by decide)) (hs q2 i e2 h0))
    have go : o = fst1 (pClean L d) c (i + 1) → wX5_oneDay (fun S8 => wX5_clean_25 post (c + 1) S8 (nI d) (nI i + 1)) (m_row_s N q0) := by
      intro h0
      refine s5_oneDay (D := 9999 + i) (M := m_row_s N q0) (by omega) ?_ (fun q2 e2 => ?_)
      · show okS (9999 + i) (rowH q0)
        rw [eq]
        exact okL.dayN i (by omega)
      · rw [← nI_succ]
        refine ih (i + 1) q2 ?_ (by omega) h0
        rw [e2, nDay_s, ← eq]
        rfl
    refine s5_there_dust hd ?_
    have e0 : h_dust (rowH (m_row (m_row_s N q0))) d = h_dust (nDay i L) d := by
      show h_dust (rowH q0) d = _
      rw [eq]
    rw [e0]
    obtain ⟨v, hv, ev⟩ := (okL.dayN i (by omega)).dust d
    by_cases q : h_dust (nDay i L) d = 0
    · rw [if_pos (by simpa [pClean] using q)] at h
      rw [q]
      exact br_t (by decide) (stop h)
    · rw [if_neg (by simpa [pClean] using q)] at h
      refine br_f ?_ (go h)
      rw [ev] at q ⊢
      exact nI_nle (Nat.pos_of_ne_zero (fun z => q (by rw [z]; rfl))) (by omega)
theorem s5_comes_l {post : Int32 → MSt → Prop} {N : MSt} (o : Option Nat) (L : HSt) {d : Nat} (hd : d < 8) (m : Int32) (okL : okS 9999 L) (hs : ∀ q n, rowH q = rowH (m_tried N) → o = some n → post (nI n) (m_row_s N q)) (hn : ∀ q, rowH q = rowH (m_tried N) → o = none → wX5_finds post (m_row_s N q) (-1000000004)) : ∀ (c i : Nat) (q : Nat → Int32), rowH q = nDay i L → i + c = 101 → o = fst1 (pMem L d m) c i → wX5_whenHas_11 post (c + 1) (m_row_s N q) (nI (4 + 2 * d)) m (nI i) := by
  intro c
  induction c with
  | zero =>
    intro i q0 eq e h
    rw [wX5_whenHas_11]
    obtain rfl : i = 101 := by omega
    exact br_t (by decide) (s5_back_tried (fun q2 e2 => br_f (by decide) (hn q2 e2 h)))
  | succ c ih =>
    intro i q0 eq e h
    rw [wX5_whenHas_11]
    refine br_f (nI_nlt (b := i) (a := 100) (by omega) (by omega)) ?_
    rw [fst1] at h
    have stop : o = some i → wX5_whenHas_40 post (m_row_s N q0) (nI i) := fun h0 => s5_back_tried (fun q2 e2 => br_t (nI_le (b := 100) (by omega) (by decide)) (hs q2 i e2 h0))
    have go : o = fst1 (pMem L d m) c (i + 1) → wX5_oneDay (fun S8 => wX5_whenHas_11 post (c + 1) S8 (nI (4 + 2 * d)) m (nI i + 1)) (m_row_s N q0) := by
      intro h0
      refine s5_oneDay (D := 9999 + i) (M := m_row_s N q0) (by omega) ?_ (fun q2 e2 => ?_)
      · show okS (9999 + i) (rowH q0)
        rw [eq]
        exact okL.dayN i (by omega)
      · rw [← nI_succ]
        refine ih (i + 1) q2 ?_ (by omega) h0
        rw [e2, nDay_s, ← eq]
        rfl
    have e0 : m_row (m_row_s N q0) (nI (4 + 2 * d)).toNatClampNeg = h_memories (nDay i L) d := by
      rw [nI_clamp (by omega)]
      show q0 (4 + 2 * d) = _
      rw [rowH_memories (r := q0) hd, eq]
    rw [e0]
    refine ⟨vp_in_nI (by omega) (by decide), ?_⟩
    by_cases q : ¬ (((h_memories (nDay i L) d) >>> (m &&& 31)) &&& 1) = 0
    · rw [if_pos (by simpa [pMem] using q)] at h
      exact ⟨fun _ => stop h, fun z => absurd z q⟩
    · rw [if_neg (by simpa [pMem] using q)] at h
      exact ⟨fun z => absurd z q, fun _ => go h⟩
theorem s5_holds_l {post : Int32 → MSt → Prop} {N : MSt} (o : Option Nat) (L : HSt) {d : Nat} (hd : d < 8) (m : Int32) (okL : okS 9999 L) (hs : ∀ q n, rowH q = rowH (m_tried N) → o = some n → post (nI n) (m_row_s N q)) (hn : ∀ q, rowH q = rowH (m_tried N) → o = none → wX5_finds post (m_row_s N q) (-1000000004)) : ∀ (c i : Nat) (q : Nat → Int32), rowH q = nDay i L → i + c = 101 → o = fst1 (pHeld L d m) c i → wX5_whenHas_11 post (c + 1) (m_row_s N q) (nI (20 + 4 * d)) m (nI i) := by
  intro c
  induction c with
  | zero =>
    intro i q0 eq e h
    rw [wX5_whenHas_11]
    obtain rfl : i = 101 := by omega
    exact br_t (by decide) (s5_back_tried (fun q2 e2 => br_f (by decide) (hn q2 e2 h)))
  | succ c ih =>
    intro i q0 eq e h
    rw [wX5_whenHas_11]
    refine br_f (nI_nlt (b := i) (a := 100) (by omega) (by omega)) ?_
    rw [fst1] at h
    have stop : o = some i → wX5_whenHas_40 post (m_row_s N q0) (nI i) := fun h0 => s5_back_tried (fun q2 e2 => br_t (nI_le (b := 100) (by omega) (by decide)) (hs q2 i e2 h0))
    have go : o = fst1 (pHeld L d m) c (i + 1) → wX5_oneDay (fun S8 => wX5_whenHas_11 post (c + 1) S8 (nI (20 + 4 * d)) m (nI i + 1)) (m_row_s N q0) := by
      intro h0
      refine s5_oneDay (D := 9999 + i) (M := m_row_s N q0) (by omega) ?_ (fun q2 e2 => ?_)
      · show okS (9999 + i) (rowH q0)
        rw [eq]
        exact okL.dayN i (by omega)
      · rw [← nI_succ]
        refine ih (i + 1) q2 ?_ (by omega) h0
        rw [e2, nDay_s, ← eq]
        rfl
    have e0 : m_row (m_row_s N q0) (nI (20 + 4 * d)).toNatClampNeg = h_held (nDay i L) d := by
      rw [nI_clamp (by omega)]
      show q0 (20 + 4 * d) = _
      rw [rowH_held (r := q0) hd, eq]
    rw [e0]
    refine ⟨vp_in_nI (by omega) (by decide), ?_⟩
    by_cases q : ¬ (((h_held (nDay i L) d) >>> (m &&& 31)) &&& 1) = 0
    · rw [if_pos (by simpa [pHeld] using q)] at h
      exact ⟨fun _ => stop h, fun z => absurd z q⟩
    · rw [if_neg (by simpa [pHeld] using q)] at h
      exact ⟨fun z => absurd z q, fun _ => go h⟩
theorem op_clean (R : Rel X M) (r : Int32) : wX4_clean (fun a T => wX5_clean (fun b N => a = b ∧ Rel T N) M r) X r := by
  by_cases c : ∃ j, j < 8 ∧ r = nI j
  · obtain ⟨j, hj, rfl⟩ := c
    refine s4_isRoom_t hj (bn_f (by decide) (s4_become R R.za (fun S4 e4 => ?_)))
    subst e4
    refine ⟨102, s4_clean_l (X := X) (fst1 (pClean (x_live X) j) 101 0) (x_live X) hj R.ok (fun A n z e => ?_) (fun A z e => s4_finding_NONE ?_) 101 0 rfl rfl⟩
    · refine s5_isRoom_t hj (bn_f (by decide) (s5_save_tried (fun t et => ⟨102, s5_clean_l (N := m_tried_s M t) (fst1 (pClean (x_live X) j) 101 0) (x_live X) hj R.ok (fun q n2 eq e2 => ⟨?_, ((R.ahead z).tried t).row (eq.trans et)⟩) (fun q eq e2 => absurd (e.symm.trans e2) (by simp)) 101 0 (m_row M) R.eL.symm rfl rfl⟩)))
      rw [e] at e2
      cases e2
      rfl
    · refine s5_isRoom_t hj (bn_f (by decide) (s5_save_tried (fun t et => ⟨102, s5_clean_l (N := m_tried_s M t) (fst1 (pClean (x_live X) j) 101 0) (x_live X) hj R.ok (fun q n2 eq e2 => absurd (e.symm.trans e2) (by simp)) (fun q eq e2 => s5_finds_NONE ⟨rfl, (((R.ahead z).tried t).row (eq.trans et)).found 3⟩) 101 0 (m_row M) R.eL.symm rfl rfl⟩)))
  · exact s4_isRoom_f c (bn_t rfl (s4_finding_BEYOND (s5_isRoom_f c (bn_t rfl (s5_finds_BEYOND ⟨rfl, R.found 0⟩)))))
theorem op_comes (R : Rel X M) (r m : Int32) : wX4_comes (fun a T => wX5_comes (fun b N => a = b ∧ Rel T N) M r m) X r m := by
  by_cases c : ∃ j, j < 8 ∧ r = nI j
  · obtain ⟨j, hj, rfl⟩ := c
    refine s4_isRoom_t hj (br_f (by decide) ?_)
    by_cases cm : ∃ j, j < 10 ∧ m = nI j
    · obtain ⟨i, hi, rfl⟩ := cm
      refine s4_isMemory_t hi (bn_f (by decide) (s4_become R R.za (fun S4 e4 => ?_)))
      subst e4
      have mm : ∀ (post : Int32 → MSt → Prop), wX5_whenHas post M (nI (4 + 2 * j)) (nI i) → wX5_comes post M (nI j) (nI i) := fun post h => s5_isRoom_t hj (br_f (by decide) (s5_isMemory_t hi (br_f (by decide) (by rw [ix_memories]; exact h))))
      refine ⟨102, s4_comes_l (X := X) (fst1 (pMem (x_live X) j (nI i)) 101 0) (x_live X) hj (nI i) R.ok (fun A n z e => ?_) (fun A z e => s4_finding_NONE ?_) 101 0 rfl rfl⟩
      · refine mm _ (s5_save_tried (fun t et => ⟨102, s5_comes_l (N := m_tried_s M t) (fst1 (pMem (x_live X) j (nI i)) 101 0) (x_live X) hj (nI i) R.ok (fun q n2 eq e2 => ⟨?_, ((R.ahead z).tried t).row (eq.trans et)⟩) (fun q eq e2 => absurd (e.symm.trans e2) (by simp)) 101 0 (m_row M) R.eL.symm rfl rfl⟩))
        rw [e] at e2
        cases e2
        rfl
      · refine mm _ (s5_save_tried (fun t et => ⟨102, s5_comes_l (N := m_tried_s M t) (fst1 (pMem (x_live X) j (nI i)) 101 0) (x_live X) hj (nI i) R.ok (fun q n2 eq e2 => absurd (e.symm.trans e2) (by simp)) (fun q eq e2 => s5_finds_NONE ⟨rfl, (((R.ahead z).tried t).row (eq.trans et)).found 3⟩) 101 0 (m_row M) R.eL.symm rfl rfl⟩))
    · exact s4_isMemory_f cm (bn_t rfl (s4_finding_BEYOND (s5_isRoom_t hj (br_f (by decide) (s5_isMemory_f cm (br_t rfl (s5_finds_BEYOND ⟨rfl, R.found 0⟩)))))))
  · exact s4_isRoom_f c (br_t rfl (s4_finding_BEYOND (s5_isRoom_f c (br_t rfl (s5_finds_BEYOND ⟨rfl, R.found 0⟩)))))
theorem op_holds (R : Rel X M) (d m : Int32) : wX4_holds (fun a T => wX5_holds (fun b N => a = b ∧ Rel T N) M d m) X d m := by
  obtain ⟨k, hk, e4, e5⟩ := R.many
  by_cases c : ∃ j, j < k ∧ d = nI j
  · obtain ⟨j, hj, rfl⟩ := c
    have hj8 : j < 8 := by omega
    refine s4_isDuster_t hk e4 hj (br_f (by decide) ?_)
    by_cases cm : ∃ j, j < 10 ∧ m = nI j
    · obtain ⟨i, hi, rfl⟩ := cm
      refine s4_isMemory_t hi (bn_f (by decide) (s4_become R R.za (fun S4 e4 => ?_)))
      subst e4
      have mm : ∀ (post : Int32 → MSt → Prop), wX5_whenHas post M (nI (20 + 4 * j)) (nI i) → wX5_holds post M (nI j) (nI i) := fun post h => s5_isOne_t hk e5 hj (br_f (by decide) (s5_isMemory_t hi (br_f (by decide) (by rw [ix_held]; exact h))))
      refine ⟨102, s4_holds_l (X := X) (fst1 (pHeld (x_live X) j (nI i)) 101 0) (x_live X) hj8 (nI i) R.ok (fun A n z e => ?_) (fun A z e => s4_finding_NONE ?_) 101 0 rfl rfl⟩
      · refine mm _ (s5_save_tried (fun t et => ⟨102, s5_holds_l (N := m_tried_s M t) (fst1 (pHeld (x_live X) j (nI i)) 101 0) (x_live X) hj8 (nI i) R.ok (fun q n2 eq e2 => ⟨?_, ((R.ahead z).tried t).row (eq.trans et)⟩) (fun q eq e2 => absurd (e.symm.trans e2) (by simp)) 101 0 (m_row M) R.eL.symm rfl rfl⟩))
        rw [e] at e2
        cases e2
        rfl
      · refine mm _ (s5_save_tried (fun t et => ⟨102, s5_holds_l (N := m_tried_s M t) (fst1 (pHeld (x_live X) j (nI i)) 101 0) (x_live X) hj8 (nI i) R.ok (fun q n2 eq e2 => absurd (e.symm.trans e2) (by simp)) (fun q eq e2 => s5_finds_NONE ⟨rfl, (((R.ahead z).tried t).row (eq.trans et)).found 3⟩) 101 0 (m_row M) R.eL.symm rfl rfl⟩))
    · exact s4_isMemory_f cm (bn_t rfl (s4_finding_BEYOND (s5_isOne_t hk e5 hj (br_f (by decide) (s5_isMemory_f cm (br_t rfl (s5_finds_BEYOND ⟨rfl, R.found 0⟩)))))))
  · exact s4_isDuster_f hk e4 c (br_t rfl (s4_finding_BEYOND (s5_isOne_f hk e5 c (br_t rfl (s5_finds_BEYOND ⟨rfl, R.found 0⟩)))))
end Ops3
