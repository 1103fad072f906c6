section Ops4
variable {X : XSt} {M : MSt}
set_option maxHeartbeats 400000 in
theorem it_nI {f : Nat → Int32 → Int32} (b : Nat) (hf : ∀ i a n, i < 8 → n ≤ b * i → a = nI n → ∃ m, m ≤ b * (i + 1) ∧ f i a = nI m) : ∀ (c i : Nat) (a : Int32) (n : Nat), i + c ≤ 8 → n ≤ b * i → a = nI n → ∃ m, m ≤ b * (i + c) ∧ itN f c i a = nI m := by
  intro c
  induction c with
  | zero => intro i a n hi hn e; exact ⟨n, hn, e⟩
  | succ c ih =>
    intro i a n hi hn e
    obtain ⟨m, hm, em⟩ := hf i a n (by omega) hn e
    obtain ⟨m2, hm2, e2⟩ := ih (i + 1) (f i a) m (by omega) hm em
    exact ⟨m2, by rw [show i + (c + 1) = i + 1 + c from by omega]; exact hm2, e2⟩
set_option maxHeartbeats 400000 in
theorem dsum_Rg {D : Nat} {S : HSt} (ok : okS D S) : Rg 792 (dsum S) := by
  obtain ⟨m, hm, em⟩ := it_nI (f := fun i a => a + h_dust S i) 99 (fun i a n hi hn e => by
    obtain ⟨j, hj, ej⟩ := ok.dust i
    exact ⟨n + j, by omega, by show a + h_dust S i = _; rw [e, ej, nI_add]⟩) 8 0 0 0 (by omega) (by omega) rfl
  exact ⟨m, by omega, em⟩
/-- the least, and where -/
def argL (F : Nat → Int32) : Nat → Nat → Int32 → Int32 → Int32
  | 0, _, b, _ => b
  | c + 1, i, b, l => if l ≤ F i then argL F c (i + 1) b l else argL F c (i + 1) (nI i) (F i)
set_option maxHeartbeats 400000 in
theorem argL_1 {F : Nat → Int32} {c i : Nat} {b l b2 l2 : Int32} (h : ¬ l ≤ F i) (h2 : ¬ l2 ≤ F i) : argL F (c + 1) i b l = argL F (c + 1) i b2 l2 := by
  rw [argL, argL, if_neg h, if_neg h2]
set_option maxHeartbeats 400000 in
theorem argL_nn {F : Nat → Int32} : ∀ (c i : Nat) (b l : Int32), i + c ≤ 8 → 0 ≤ b → 0 ≤ argL F c i b l := by
  intro c
  induction c with
  | zero => intro i b l _ h; exact h
  | succ c ih =>
    intro i b l hi h
    rw [argL]
    split
    · exact ih _ _ _ (by omega) h
    · exact ih _ _ _ (by omega) (nI_pos' (by omega))
/-- the most, and where -/
def argM (F : Nat → Int32) : Nat → Nat → Int32 → Int32 → Int32
  | 0, _, b, _ => b
  | c + 1, i, b, l => if F i ≤ l then argM F c (i + 1) b l else argM F c (i + 1) (nI i) (F i)
set_option maxHeartbeats 400000 in
theorem s4_dustAhead {post : Int32 → XSt → Prop} {D n : Nat} {A : HSt} (hD : D + n < 2 ^ 20) (ok : okS D A) (h : post (dsum (nDay n A)) (x_ahead_s X (nDay n A))) : wX4_dustAheadAfter post (x_ahead_s X A) (nI n) := by
  refine s0_goDays (D := D) (S := A) hD ok (fun S2 e2 => ?_)
  subst e2
  exact s0_dsum (S := nDay n A) h
set_option maxHeartbeats 400000 in
theorem s5_dustBehind {post : Int32 → MSt → Prop} {D n : Nat} {N : MSt} {q : Nat → Int32} (hD : D + n < 2 ^ 20) (ok : okS D (rowH q)) (h : ∀ q2, rowH q2 = rowH (m_tried N) → post (dsum (nDay n (rowH q))) (m_row_s N q2)) : wX5_dustBehind post (m_row_s N q) (nI n) := by
  refine s5_passes (D := D) (M := m_row_s N q) hD ok (fun q1 e1 => ?_)
  replace e1 : rowH q1 = nDay n (rowH q) := e1
  refine s5_dsum (D := D + n) (M := m_row_s N q1) (by show okS _ (rowH q1); rw [e1]; exact ok.dayN n hD) ?_
  show wX5_moveAll_tried (fun S3 => post (dsum (rowH q1)) S3) (m_row_s N q1) 0
  rw [e1]
  exact s5_back_tried (fun q2 e2 => h q2 e2)
set_option maxHeartbeats 400000 in
theorem s5_memoriesBehind {post : Int32 → MSt → Prop} {D n : Nat} {N : MSt} {q : Nat → Int32} (hD : D + n < 2 ^ 20) (ok : okS D (rowH q)) (h : ∀ q2, rowH q2 = rowH (m_tried N) → post (msum (nDay n (rowH q))) (m_row_s N q2)) : wX5_memoriesBehind post (m_row_s N q) (nI n) := by
  refine s5_passes (D := D) (M := m_row_s N q) hD ok (fun q1 e1 => ?_)
  replace e1 : rowH q1 = nDay n (rowH q) := e1
  refine s5_msum (D := D + n) (M := m_row_s N q1) (by show okS _ (rowH q1); rw [e1]; exact ok.dayN n hD) ?_
  show wX5_moveAll_tried (fun S3 => post (msum (rowH q1)) S3) (m_row_s N q1) 0
  rw [e1]
  exact s5_back_tried (fun q2 e2 => h q2 e2)
/-! round -/
def rdS (L : HSt) (d i : Nat) : HSt := h_rounds_s L (upd (h_rounds L) d (nI i))
def rdF (L : HSt) (d n i : Nat) : Int32 := dsum (nDay n (rdS L d i))
set_option maxHeartbeats 400000 in
theorem s4_round_l {post : Int32 → XSt → Prop} (R : Rel X M) {d n : Nat} (hd : d < 8) (hn : n ≤ 40) {r : Int32} (hp : ∀ A, zS A → post r (x_ahead_s X A)) : ∀ (c i : Nat) (b l : Int32) (A : HSt), zS A → i + c = 8 → r = argL (rdF (x_live X) d n) c i b l → wX4_round_34 post (c + 1) (x_ahead_s X A) (nI d) (nI n) b l (nI i) := by
  intro c
  induction c with
  | zero =>
    intro i b l A z e h
    rw [wX4_round_34]
    have h : r = b := h
    exact br_t (nI_le (a := 8) (by omega) (by omega)) (h ▸ hp A z)
  | succ c ih =>
    intro i b l A z e h
    rw [wX4_round_34]
    refine br_f (nI_ge (b := 8) (by omega) (by omega)) (s4_become (X := X) R z ?_)
    intro S9 e9
    subst e9
    rw [c8 hd]
    refine ⟨v8 hd, fun S10 e10 => ?_⟩
    subst e10
    have ok : okS 9999 (rdS (x_live X) d i) := R.ok.set_rounds hd ⟨i, by omega, rfl⟩
    refine s4_dustAhead (X := X) (A := rdS (x_live X) d i) (D := 9999) (by omega) ok ?_
    have z2 := (ok.dayN n (by omega)).z
    rw [argL] at h
    refine br_c (fun q => ?_) (fun q => ?_)
    · rw [if_pos (show l ≤ rdF (x_live X) d n i from q)] at h
      rw [← nI_succ]
      exact ih (i + 1) _ _ _ z2 (by omega) h
    · rw [if_neg (show ¬ l ≤ rdF (x_live X) d n i from q)] at h
      rw [← nI_succ]
      exact ih (i + 1) _ _ _ z2 (by omega) h
set_option maxHeartbeats 400000 in
theorem s5_round_l {post : Int32 → MSt → Prop} {N : MSt} (okN : okS 9999 (rowH (m_tried N))) {d n : Nat} (hd : d < 8) (hn : n ≤ 40) {r : Int32} (hp : ∀ q, rowH q = rowH (m_tried N) → post r (m_row_s N q)) : ∀ (c i : Nat) (b l : Int32) (q : Nat → Int32), rowH q = rowH (m_tried N) → i + c = 8 → r = argL (rdF (rowH (m_tried N)) d n) c i b l → wX5_round_44 post (c + 1) (m_row_s N q) (nI d) (nI n) b l (nI i) := by
  intro c
  induction c with
  | zero =>
    intro i b l q eq e h
    rw [wX5_round_44]
    have h : r = b := h
    exact br_t (nI_le (a := 8) (by omega) (by omega)) (h ▸ hp q eq)
  | succ c ih =>
    intro i b l q eq e h
    rw [wX5_round_44]
    refine br_f (nI_ge (b := 8) (by omega) (by omega)) (s5_puts_rounds hd (fun q1 e1 => ?_))
    replace e1 : rowH q1 = rdS (rowH q) d i := e1
    rw [eq] at e1
    refine s5_dustBehind (N := N) (q := q1) (D := 9999) (by omega) (by rw [e1]; exact okN.set_rounds hd ⟨i, by omega, rfl⟩) (fun q2 e2 => ?_)
    rw [e1]
    rw [argL] at h
    refine br_c (fun q => ?_) (fun q => ?_)
    · rw [if_pos (show l ≤ rdF (rowH (m_tried N)) d n i from q)] at h
      refine br_t q ?_
      rw [← nI_succ]
      exact ih (i + 1) _ _ _ e2 (by omega) h
    · rw [if_neg (show ¬ l ≤ rdF (rowH (m_tried N)) d n i from q)] at h
      refine br_f q ?_
      rw [← nI_succ]
      exact ih (i + 1) _ _ _ e2 (by omega) h
set_option maxHeartbeats 400000 in
theorem op_round (R : Rel X M) (d v : Int32) : wX4_round (fun a T => wX5_round (fun b N => a = b ∧ Rel T N) M d v) X d v := by
  obtain ⟨k, hk, e4, e5⟩ := R.many
  by_cases c : ∃ j, j < k ∧ d = nI j
  · obtain ⟨j, hj, rfl⟩ := c
    have hj8 : j < 8 := by omega
    refine s4_isDuster_t hk e4 hj (br_f (by decide) ?_)
    by_cases cv : 1 ≤ v ∧ v ≤ 40
    · obtain ⟨n, hn, rfl⟩ := in_of (n := 40) (by decide) ⟨Int32.le_trans (by decide) cv.1, cv.2⟩
      have f0 : Rg 792 (rdF (x_live X) j n 0) := dsum_Rg ((R.ok.set_rounds hj8 (v := nI 0) ⟨0, by omega, rfl⟩).dayN n (by omega))
      have f1 : ¬ (2147483647 : Int32) ≤ rdF (x_live X) j n 0 := by
        obtain ⟨m, hm, em⟩ := f0
        rw [em]
        exact nI_ge (b := 2147483647) (by omega) (by decide)
      have f2 : ¬ (793 : Int32) ≤ rdF (x_live X) j n 0 := by
        obtain ⟨m, hm, em⟩ := f0
        rw [em]
        exact nI_ge (b := 793) (by omega) (by decide)
      refine s4_in_t cv.1 cv.2 (bn_f (by decide) ⟨9, s4_round_l (X := X) R hj8 hn (fun A z => ?_) 8 0 0 2147483647 (x_ahead X) R.za rfl rfl⟩)
      refine s5_isOne_t hk e5 hj (br_f (by decide) (s5_in_t cv.1 cv.2 (bn_f (by decide) (s5_save_tried (fun t et => ⟨9, ?_⟩)))))
      have okN : okS 9999 (rowH (m_tried (m_tried_s M t))) := by show okS 9999 (rowH t); rw [et]; exact R.ok5
      refine s5_round_l (N := m_tried_s M t) okN hj8 hn (fun q eq => ⟨rfl, ((R.ahead z).tried t).row (eq.trans et)⟩) 8 0 0 793 (m_row M) et.symm rfl ?_
      rw [show rowH (m_tried (m_tried_s M t)) = x_live X from et.trans R.eL.symm]
      exact argL_1 f1 f2
    · exact s4_in_f cv (bn_t rfl (s4_finding_BEYOND (s5_isOne_t hk e5 hj (br_f (by decide) (s5_in_f cv (bn_t rfl (s5_finds_BEYOND ⟨rfl, R.found 0⟩)))))))
  · exact s4_isDuster_f hk e4 c (br_t rfl (s4_finding_BEYOND (s5_isOne_f hk e5 c (br_t rfl (s5_finds_BEYOND ⟨rfl, R.found 0⟩)))))
def kdS (L : HSt) (d i : Nat) : HSt := h_kinds_s L (upd (h_kinds L) d (nI i))
def kdF (L : HSt) (d n i : Nat) : Int32 := msum (nDay n (kdS L d i))
set_option maxHeartbeats 400000 in
theorem s4_kd_l {post : Int32 → XSt → Prop} (R : Rel X M) {d n : Nat} (hd : d < 8) (hn : n ≤ 40) {r : Int32} (hp : ∀ A, zS A → post r (x_ahead_s X A)) : ∀ (c i : Nat) (b l : Int32) (A : HSt), zS A → i + c = 5 + 1 → r = argM (kdF (x_live X) d n) c i b l → wX4_withMostMemories_kinds_9 post (c + 1) (x_ahead_s X A) (nI d) 5 (nI n) b l (nI i) := by
  intro c
  induction c with
  | zero =>
    intro i b l A z e h
    rw [wX4_withMostMemories_kinds_9]
    have h : r = b := h
    exact br_t (nI_lt (a := 5) (by omega) (by omega)) (h ▸ hp A z)
  | succ c ih =>
    intro i b l A z e h
    rw [wX4_withMostMemories_kinds_9]
    refine br_f (nI_nlt (b := i) (a := 5) (by omega) (by omega)) (s4_become (X := X) R z ?_)
    intro S9 e9
    subst e9
    rw [c8 hd]
    refine ⟨v8 hd, fun S10 e10 => ?_⟩
    subst e10
    have ok : okS 9999 (kdS (x_live X) d i) := R.ok.set_kinds hd ⟨i, by omega, rfl⟩
    refine s0_goDays (D := 9999) (S := kdS (x_live X) d i) (by omega) ok (fun S6 e6 => ?_)
    subst e6
    refine s0_msum (S := nDay n (kdS (x_live X) d i)) ?_
    have z2 := (ok.dayN n (by omega)).z
    rw [argM] at h
    refine br_c (fun q => ?_) (fun q => ?_)
    · rw [if_pos (show kdF (x_live X) d n i ≤ l from q)] at h
      rw [← nI_succ]
      exact ih (i + 1) _ _ _ z2 (by omega) h
    · rw [if_neg (show ¬ kdF (x_live X) d n i ≤ l from q)] at h
      rw [← nI_succ]
      exact ih (i + 1) _ _ _ z2 (by omega) h
set_option maxHeartbeats 400000 in
theorem s5_kd_l {post : Int32 → MSt → Prop} {N : MSt} (okN : okS 9999 (rowH (m_tried N))) {d n : Nat} (hd : d < 8) (hn : n ≤ 40) {r : Int32} (hp : ∀ q, rowH q = rowH (m_tried N) → post r (m_row_s N q)) : ∀ (c i : Nat) (b l : Int32) (q : Nat → Int32), rowH q = rowH (m_tried N) → i + c = 5 + 1 → r = argM (kdF (rowH (m_tried N)) d n) c i b l → wX5_mostBy_18 post (c + 1) (m_row_s N q) (nI d) 0 5 (nI n) b l (nI i) := by
  intro c
  induction c with
  | zero =>
    intro i b l q eq e h
    rw [wX5_mostBy_18]
    have h : r = b := h
    exact br_t (nI_lt (a := 5) (by omega) (by omega)) (h ▸ hp q eq)
  | succ c ih =>
    intro i b l q eq e h
    rw [wX5_mostBy_18]
    refine br_f (nI_nlt (b := i) (a := 5) (by omega) (by omega)) (s5_puts_kinds hd (fun q1 e1 => ?_))
    replace e1 : rowH q1 = kdS (rowH q) d i := e1
    rw [eq] at e1
    refine s5_memoriesBehind (N := N) (q := q1) (D := 9999) (by omega) (by rw [e1]; exact okN.set_kinds hd ⟨i, by omega, rfl⟩) (fun q2 e2 => ?_)
    rw [e1]
    rw [argM] at h
    refine br_c (fun q => ?_) (fun q => ?_)
    · rw [if_pos (show kdF (rowH (m_tried N)) d n i ≤ l from q)] at h
      refine br_t q ?_
      rw [← nI_succ]
      exact ih (i + 1) _ _ _ e2 (by omega) h
    · rw [if_neg (show ¬ kdF (rowH (m_tried N)) d n i ≤ l from q)] at h
      refine br_f q ?_
      rw [← nI_succ]
      exact ih (i + 1) _ _ _ e2 (by omega) h
set_option maxHeartbeats 400000 in
theorem op_kind (R : Rel X M) (d v : Int32) : wX4_kind (fun a T => wX5_kind (fun b N => a = b ∧ Rel T N) M d v) X d v := by
  obtain ⟨k, hk, e4, e5⟩ := R.many
  by_cases c : ∃ j, j < k ∧ d = nI j
  · obtain ⟨j, hj, rfl⟩ := c
    have hj8 : j < 8 := by omega
    refine s4_isDuster_t hk e4 hj (br_f (by decide) ?_)
    by_cases cv : 1 ≤ v ∧ v ≤ 40
    · obtain ⟨n, hn, rfl⟩ := in_of (n := 40) (by decide) ⟨Int32.le_trans (by decide) cv.1, cv.2⟩
      refine s4_in_t cv.1 cv.2 (bn_f (by decide) ⟨5 + 2, s4_kd_l (X := X) R hj8 hn (fun A z => ?_) (5 + 1) 0 0 (-1) (x_ahead X) R.za rfl rfl⟩)
      refine s5_isOne_t hk e5 hj (br_f (by decide) (s5_in_t cv.1 cv.2 (br_f (by decide) (s5_save_tried (fun t et => ⟨5 + 2, ?_⟩)))))
      have okN : okS 9999 (rowH (m_tried (m_tried_s M t))) := by show okS 9999 (rowH t); rw [et]; exact R.ok5
      refine s5_kd_l (N := m_tried_s M t) okN hj8 hn (fun q eq => ⟨rfl, ((R.ahead z).tried t).row (eq.trans et)⟩) (5 + 1) 0 0 (-1) (m_row M) et.symm rfl ?_
      rw [show rowH (m_tried (m_tried_s M t)) = x_live X from et.trans R.eL.symm]
    · exact s4_in_f cv (bn_t rfl (s4_finding_BEYOND (s5_isOne_t hk e5 hj (br_f (by decide) (s5_in_f cv (br_t rfl (s5_finds_BEYOND ⟨rfl, R.found 0⟩)))))))
  · exact s4_isDuster_f hk e4 c (br_t rfl (s4_finding_BEYOND (s5_isOne_f hk e5 c (br_t rfl (s5_finds_BEYOND ⟨rfl, R.found 0⟩)))))
def grS (L : HSt) (d i : Nat) : HSt := h_grimes_s L (upd (h_grimes L) d (nI i))
def grF (L : HSt) (d n i : Nat) : Int32 := msum (nDay n (grS L d i))
set_option maxHeartbeats 400000 in
theorem s4_gr_l {post : Int32 → XSt → Prop} (R : Rel X M) {d n : Nat} (hd : d < 8) (hn : n ≤ 40) {r : Int32} (hp : ∀ A, zS A → post r (x_ahead_s X A)) : ∀ (c i : Nat) (b l : Int32) (A : HSt), zS A → i + c = 99 + 1 → r = argM (grF (x_live X) d n) c i b l → wX4_withMostMemories_grimes_9 post (c + 1) (x_ahead_s X A) (nI d) 99 (nI n) b l (nI i) := by
  intro c
  induction c with
  | zero =>
    intro i b l A z e h
    rw [wX4_withMostMemories_grimes_9]
    have h : r = b := h
    exact br_t (nI_lt (a := 99) (by omega) (by omega)) (h ▸ hp A z)
  | succ c ih =>
    intro i b l A z e h
    rw [wX4_withMostMemories_grimes_9]
    refine br_f (nI_nlt (b := i) (a := 99) (by omega) (by omega)) (s4_become (X := X) R z ?_)
    intro S9 e9
    subst e9
    rw [c8 hd]
    refine ⟨v8 hd, fun S10 e10 => ?_⟩
    subst e10
    have ok : okS 9999 (grS (x_live X) d i) := R.ok.set_grimes hd ⟨i, by omega, rfl⟩
    refine s0_goDays (D := 9999) (S := grS (x_live X) d i) (by omega) ok (fun S6 e6 => ?_)
    subst e6
    refine s0_msum (S := nDay n (grS (x_live X) d i)) ?_
    have z2 := (ok.dayN n (by omega)).z
    rw [argM] at h
    refine br_c (fun q => ?_) (fun q => ?_)
    · rw [if_pos (show grF (x_live X) d n i ≤ l from q)] at h
      rw [← nI_succ]
      exact ih (i + 1) _ _ _ z2 (by omega) h
    · rw [if_neg (show ¬ grF (x_live X) d n i ≤ l from q)] at h
      rw [← nI_succ]
      exact ih (i + 1) _ _ _ z2 (by omega) h
set_option maxHeartbeats 400000 in
theorem s5_gr_l {post : Int32 → MSt → Prop} {N : MSt} (okN : okS 9999 (rowH (m_tried N))) {d n : Nat} (hd : d < 8) (hn : n ≤ 40) {r : Int32} (hp : ∀ q, rowH q = rowH (m_tried N) → post r (m_row_s N q)) : ∀ (c i : Nat) (b l : Int32) (q : Nat → Int32), rowH q = rowH (m_tried N) → i + c = 99 + 1 → r = argM (grF (rowH (m_tried N)) d n) c i b l → wX5_mostBy_18 post (c + 1) (m_row_s N q) (nI d) 2 99 (nI n) b l (nI i) := by
  intro c
  induction c with
  | zero =>
    intro i b l q eq e h
    rw [wX5_mostBy_18]
    have h : r = b := h
    exact br_t (nI_lt (a := 99) (by omega) (by omega)) (h ▸ hp q eq)
  | succ c ih =>
    intro i b l q eq e h
    rw [wX5_mostBy_18]
    refine br_f (nI_nlt (b := i) (a := 99) (by omega) (by omega)) (s5_puts_grimes hd (fun q1 e1 => ?_))
    replace e1 : rowH q1 = grS (rowH q) d i := e1
    rw [eq] at e1
    refine s5_memoriesBehind (N := N) (q := q1) (D := 9999) (by omega) (by rw [e1]; exact okN.set_grimes hd ⟨i, by omega, rfl⟩) (fun q2 e2 => ?_)
    rw [e1]
    rw [argM] at h
    refine br_c (fun q => ?_) (fun q => ?_)
    · rw [if_pos (show grF (rowH (m_tried N)) d n i ≤ l from q)] at h
      refine br_t q ?_
      rw [← nI_succ]
      exact ih (i + 1) _ _ _ e2 (by omega) h
    · rw [if_neg (show ¬ grF (rowH (m_tried N)) d n i ≤ l from q)] at h
      refine br_f q ?_
      rw [← nI_succ]
      exact ih (i + 1) _ _ _ e2 (by omega) h
set_option maxHeartbeats 400000 in
theorem op_grime (R : Rel X M) (d v : Int32) : wX4_grime (fun a T => wX5_grime (fun b N => a = b ∧ Rel T N) M d v) X d v := by
  obtain ⟨k, hk, e4, e5⟩ := R.many
  by_cases c : ∃ j, j < k ∧ d = nI j
  · obtain ⟨j, hj, rfl⟩ := c
    have hj8 : j < 8 := by omega
    refine s4_isDuster_t hk e4 hj (br_f (by decide) ?_)
    by_cases cv : 1 ≤ v ∧ v ≤ 40
    · obtain ⟨n, hn, rfl⟩ := in_of (n := 40) (by decide) ⟨Int32.le_trans (by decide) cv.1, cv.2⟩
      refine s4_in_t cv.1 cv.2 (bn_f (by decide) ⟨99 + 2, s4_gr_l (X := X) R hj8 hn (fun A z => ?_) (99 + 1) 0 0 (-1) (x_ahead X) R.za rfl rfl⟩)
      refine s5_isOne_t hk e5 hj (br_f (by decide) (s5_in_t cv.1 cv.2 (br_f (by decide) (s5_save_tried (fun t et => ⟨99 + 2, ?_⟩)))))
      have okN : okS 9999 (rowH (m_tried (m_tried_s M t))) := by show okS 9999 (rowH t); rw [et]; exact R.ok5
      refine s5_gr_l (N := m_tried_s M t) okN hj8 hn (fun q eq => ⟨rfl, ((R.ahead z).tried t).row (eq.trans et)⟩) (99 + 1) 0 0 (-1) (m_row M) et.symm rfl ?_
      rw [show rowH (m_tried (m_tried_s M t)) = x_live X from et.trans R.eL.symm]
    · exact s4_in_f cv (bn_t rfl (s4_finding_BEYOND (s5_isOne_t hk e5 hj (br_f (by decide) (s5_in_f cv (br_t rfl (s5_finds_BEYOND ⟨rfl, R.found 0⟩)))))))
  · exact s4_isDuster_f hk e4 c (br_t rfl (s4_finding_BEYOND (s5_isOne_f hk e5 c (br_t rfl (s5_finds_BEYOND ⟨rfl, R.found 0⟩)))))
/-! which had best be washed -/
def beF (L : HSt) (n i : Nat) : Int32 := dsum (nDay n (waS L i))
set_option maxHeartbeats 400000 in
theorem s4_best_l {post : Int32 → XSt → Prop} (R : Rel X M) {k n : Nat} (hk : k ≤ 8) (ek : h_dusters (x_live X) = nI k) (hn : n ≤ 40) {r : Int32} (hp : ∀ A, zS A → post r (x_ahead_s X A)) : ∀ (c i : Nat) (b l : Int32) (A : HSt), zS A → i + c = k → r = argL (beF (x_live X) n) c i b l → wX4_best_42 post (c + 1) (x_ahead_s X A) (nI n) b l (nI i) := by
  intro c
  induction c with
  | zero =>
    intro i b l A z e h
    rw [wX4_best_42]
    have h : r = b := h
    refine br_t ?_ (h ▸ hp A z)
    show h_dusters (x_live X) ≤ nI i
    rw [ek]
    exact nI_le (by omega) (by omega)
  | succ c ih =>
    intro i b l A z e h
    have hi : i < 8 := by omega
    rw [wX4_best_42]
    refine br_f ?_ (s4_become (X := X) R z ?_)
    · show ¬ h_dusters (x_live X) ≤ nI i
      rw [ek]
      exact nI_ge (by omega) (by omega)
    intro S9 e9
    subst e9
    refine s0_washOne (S := x_live X) hi (fun S10 e10 => ?_)
    subst e10
    have ok : okS 9999 (waS (x_live X) i) := R.ok.wa hi
    refine s4_dustAhead (X := X) (A := waS (x_live X) i) (D := 9999) (by omega) ok ?_
    have z2 := (ok.dayN n (by omega)).z
    rw [argL] at h
    refine br_c (fun q => ?_) (fun q => ?_)
    · rw [if_pos (show l ≤ beF (x_live X) n i from q)] at h
      rw [← nI_succ]
      exact ih (i + 1) _ _ _ z2 (by omega) h
    · rw [if_neg (show ¬ l ≤ beF (x_live X) n i from q)] at h
      rw [← nI_succ]
      exact ih (i + 1) _ _ _ z2 (by omega) h
set_option maxHeartbeats 400000 in
theorem s5_best_l {post : Int32 → MSt → Prop} {N : MSt} (okN : okS 9999 (rowH (m_tried N))) {k n : Nat} (hk : k ≤ 8) (ek : h_dusters (rowH (m_tried N)) = nI k) (hn : n ≤ 40) {r : Int32} (h1 : 0 ≤ r → ∀ q, rowH q = rowH (m_tried N) → post r (m_row_s N q)) (h0 : ¬ 0 ≤ r → ∀ q, rowH q = rowH (m_tried N) → wX5_finds post (m_row_s N q) (-1000000004)) : ∀ (c i : Nat) (b l : Int32) (q : Nat → Int32), rowH q = rowH (m_tried N) → i + c = k → r = argL (beF (rowH (m_tried N)) n) c i b l → wX5_best_35 post (c + 1) (m_row_s N q) (nI n) b l (nI i) := by
  intro c
  induction c with
  | zero =>
    intro i b l q eq e h
    have em : m_row (m_row_s N q) 2 = nI k := by
      show h_dusters (rowH q) = nI k
      rw [eq, ek]
    rw [wX5_best_35, cl2, em]
    have h : r = b := h
    subst h
    exact ⟨vp2, br_t (nI_le (by omega) (by omega)) (br_c (fun z => h1 z q eq) (fun z => h0 z q eq))⟩
  | succ c ih =>
    intro i b l q eq e h
    have hi : i < 8 := by omega
    have em : m_row (m_row_s N q) 2 = nI k := by
      show h_dusters (rowH q) = nI k
      rw [eq, ek]
    rw [wX5_best_35, cl2, em]
    refine ⟨vp2, br_f (nI_ge (by omega) (by omega)) (s5_washes hi (fun q1 e1 => ?_))⟩
    replace e1 : rowH q1 = waS (rowH q) i := e1
    rw [eq] at e1
    refine s5_dustBehind (N := N) (q := q1) (D := 9999) (by omega) (by rw [e1]; exact okN.wa hi) (fun q2 e2 => ?_)
    rw [e1]
    rw [argL] at h
    refine br_c (fun q => ?_) (fun q => ?_)
    · rw [if_pos (show l ≤ beF (rowH (m_tried N)) n i from q)] at h
      refine br_t q ?_
      rw [← nI_succ]
      exact ih (i + 1) _ _ _ e2 (by omega) h
    · rw [if_neg (show ¬ l ≤ beF (rowH (m_tried N)) n i from q)] at h
      refine br_f q ?_
      rw [← nI_succ]
      exact ih (i + 1) _ _ _ e2 (by omega) h
set_option maxHeartbeats 400000 in
theorem op_best (R : Rel X M) (v : Int32) : wX4_best (fun a T => wX5_best (fun b N => a = b ∧ Rel T N) M v) X v := by
  obtain ⟨k, hk, e4, e5⟩ := R.many
  by_cases cv : 1 ≤ v ∧ v ≤ 40
  · obtain ⟨n, hn, rfl⟩ := in_of (n := 40) (by decide) ⟨Int32.le_trans (by decide) cv.1, cv.2⟩
    refine s4_in_t cv.1 cv.2 (bn_f (by decide) ?_)
    rw [e4]
    by_cases k0 : k = 0
    · subst k0
      refine bn_t rfl (s4_finding_NONE (s5_in_t cv.1 cv.2 (bn_f (by decide) (s5_save_tried (fun t et => ⟨1, ?_⟩)))))
      have okN : okS 9999 (rowH (m_tried (m_tried_s M t))) := by show okS 9999 (rowH t); rw [et]; exact R.ok5
      exact s5_best_l (N := m_tried_s M t) okN (k := 0) (n := n) (r := -1) (by omega) (by show h_dusters (rowH t) = _; rw [et]; exact e5) hn (fun z => absurd z (by decide)) (fun _ q eq => s5_finds_NONE ⟨rfl, ((R.tried t).row (eq.trans et)).found 3⟩) 0 0 (-1) 793 (m_row M) et.symm rfl rfl
    · obtain ⟨k1, rfl⟩ : ∃ k1, k = k1 + 1 := ⟨k - 1, by omega⟩
      have f0 : Rg 792 (beF (x_live X) n 0) := dsum_Rg ((R.ok.wa (d := 0) (by omega)).dayN n (by omega))
      have f1 : ¬ (2147483647 : Int32) ≤ beF (x_live X) n 0 := by
        obtain ⟨m, hm, em⟩ := f0
        rw [em]
        exact nI_ge (b := 2147483647) (by omega) (by decide)
      have f2 : ¬ (793 : Int32) ≤ beF (x_live X) n 0 := by
        obtain ⟨m, hm, em⟩ := f0
        rw [em]
        exact nI_ge (b := 793) (by omega) (by decide)
      refine bn_f (nI_ne0 (by omega) (by omega)) ⟨k1 + 2, s4_best_l (X := X) R hk e4 hn (fun A z => ?_) (k1 + 1) 0 0 2147483647 (x_ahead X) R.za (by omega) rfl⟩
      refine s5_in_t cv.1 cv.2 (bn_f (by decide) (s5_save_tried (fun t et => ⟨k1 + 2, ?_⟩)))
      have okN : okS 9999 (rowH (m_tried (m_tried_s M t))) := by show okS 9999 (rowH t); rw [et]; exact R.ok5
      refine s5_best_l (N := m_tried_s M t) okN (k := k1 + 1) hk (by show h_dusters (rowH t) = _; rw [et]; exact e5) hn (fun _ q eq => ⟨rfl, ((R.ahead z).tried t).row (eq.trans et)⟩) (fun z => absurd (argL_nn _ _ _ _ (by omega) (by decide)) z) (k1 + 1) 0 (-1) 793 (m_row M) et.symm (by omega) ?_
      rw [show rowH (m_tried (m_tried_s M t)) = x_live X from et.trans R.eL.symm]
      exact argL_1 f1 f2
  · exact s4_in_f cv (bn_t rfl (s4_finding_BEYOND (s5_in_f cv (bn_t rfl (s5_finds_BEYOND ⟨rfl, R.found 0⟩)))))
/-! when one had best be shaken -/
def deF (L : HSt) (d r n i : Nat) : Int32 := popc (h_memories (nDay n (shS (nDay i L) d)) r)
set_option maxHeartbeats 400000 in
theorem s4_delay_l {post : Int32 → XSt → Prop} (okL : okS 9999 (x_live X)) {d r0 n : Nat} (hd : d < 8) (hr : r0 < 8) (hn : n ≤ 20) {r : Int32} (hp : ∀ A B, zS A → zS B → post r (x_ahead_s (x_aside_s X B) A)) : ∀ (c i : Nat) (b l : Int32) (B : HSt), zS B → i + c = 21 → r = argM (deF (x_live X) d r0 n) c i b l → wX4_delay_52 post (c + 1) (x_ahead_s (x_aside_s X B) (nDay i (x_live X))) (nI d) (nI r0) (nI n) b l (nI i) := by
  intro c
  induction c with
  | zero =>
    intro i b l B z e h
    rw [wX4_delay_52]
    have h : r = b := h
    exact br_t (nI_lt (a := 20) (by omega) (by omega)) (h ▸ hp _ _ (okL.dayN i (by omega)).z z)
  | succ c ih =>
    intro i b l B z e h
    have okI := okL.dayN i (by omega)
    rw [wX4_delay_52]
    refine br_f (nI_nlt (b := i) (a := 20) (by omega) (by omega)) (s0_becomeAs (A := B) (B := nDay i (x_live X)) z okI.z ?_)
    intro S9 e9
    subst e9
    refine s0_shakeOne (D := 9999 + i) (S := nDay i (x_live X)) (by omega) okI hd (fun S10 e10 => ?_)
    subst e10
    have ok2 := okI.sh hd
    refine s0_goDays (D := 9999 + i) (S := shS (nDay i (x_live X)) d) (by omega) ok2 (fun S11 e11 => ?_)
    subst e11
    rw [c8 hr]
    have z2 := (ok2.dayN n (by omega)).z
    refine ⟨v8 hr, s6_bitCount ?_⟩
    rw [argM] at h
    refine br_c (fun q => ?_) (fun q => ?_)
    · rw [if_pos (show deF (x_live X) d r0 n i ≤ l from q)] at h
      refine s0_goDay (D := 9999 + i) (S := nDay i (x_live X)) (by omega) okI (fun S12 e12 => ?_)
      subst e12
      rw [← nI_succ, ← nDay_s]
      exact ih (i + 1) _ _ _ z2 (by omega) h
    · rw [if_neg (show ¬ deF (x_live X) d r0 n i ≤ l from q)] at h
      refine s0_goDay (D := 9999 + i) (S := nDay i (x_live X)) (by omega) okI (fun S12 e12 => ?_)
      subst e12
      rw [← nI_succ, ← nDay_s]
      exact ih (i + 1) _ _ _ z2 (by omega) h
set_option maxHeartbeats 400000 in
theorem s5_delay_l {post : Int32 → MSt → Prop} {N : MSt} (okN : okS 9999 (rowH (m_tried N))) {d r0 n : Nat} (hd : d < 8) (hr : r0 < 8) (hn : n ≤ 20) {r : Int32} (hp : ∀ q, rowH q = rowH (m_tried N) → post r (m_row_s N q)) : ∀ (c i : Nat) (b l : Int32) (q : Nat → Int32), rowH q = rowH (m_tried N) → i + c = 21 → r = argM (deF (rowH (m_tried N)) d r0 n) c i b l → wX5_delay_50 post (c + 1) (m_row_s N q) (nI d) (nI r0) (nI n) b l (nI i) := by
  intro c
  induction c with
  | zero =>
    intro i b l q eq e h
    rw [wX5_delay_50]
    have h : r = b := h
    exact br_t (nI_lt (a := 20) (by omega) (by omega)) (h ▸ hp q eq)
  | succ c ih =>
    intro i b l q eq e h
    have okI := okN.dayN i (by omega)
    have ok2 := okI.sh hd
    rw [wX5_delay_50]
    refine br_f (nI_nlt (b := i) (a := 20) (by omega) (by omega)) (s5_passes (D := 9999) (M := m_row_s N q) (by omega) (by show okS 9999 (rowH q); rw [eq]; exact okN) (fun q1 e1 => ?_))
    replace e1 : rowH q1 = nDay i (rowH q) := e1
    rw [eq] at e1
    refine s5_shakes (D := 9999 + i) (M := m_row_s N q1) (by omega) (by show okS _ (rowH q1); rw [e1]; exact okI) hd (fun q2 e2 => ?_)
    replace e2 : rowH q2 = shS (rowH q1) d := e2
    rw [e1] at e2
    refine s5_passes (D := 9999 + i) (M := m_row_s N q2) (by omega) (by show okS _ (rowH q2); rw [e2]; exact ok2) (fun q3 e3 => ?_)
    replace e3 : rowH q3 = nDay n (rowH q2) := e3
    rw [e2] at e3
    refine s5_there_memories hr (s5_bits (by show Rg 1023 (h_memories (rowH q3) r0); rw [e3]; exact (ok2.dayN n (by omega)).mem r0) ?_)
    have ev : popc (h_memories (rowH (m_row (m_row_s (m_row_s N q2) q3))) r0) = deF (rowH (m_tried N)) d r0 n i := by
      show popc (h_memories (rowH q3) r0) = _
      rw [e3]
      rfl
    rw [ev]
    refine s5_back_tried (fun q4 e4 => ?_)
    rw [argM] at h
    refine br_c (fun q => ?_) (fun q => ?_)
    · rw [if_pos q] at h
      refine br_t q ?_
      rw [← nI_succ]
      exact ih (i + 1) _ _ _ e4 (by omega) h
    · rw [if_neg q] at h
      refine br_f q ?_
      rw [← nI_succ]
      exact ih (i + 1) _ _ _ e4 (by omega) h
set_option maxHeartbeats 400000 in
theorem op_delay (R : Rel X M) (d r v : Int32) : wX4_delay (fun a T => wX5_delay (fun b N => a = b ∧ Rel T N) M d r v) X d r v := by
  obtain ⟨k, hk, e4, e5⟩ := R.many
  by_cases c : ∃ j, j < k ∧ d = nI j
  · obtain ⟨j, hj, rfl⟩ := c
    have hj8 : j < 8 := by omega
    refine s4_isDuster_t hk e4 hj (br_f (by decide) ?_)
    by_cases cr : ∃ j, j < 8 ∧ r = nI j
    · obtain ⟨i, hi, rfl⟩ := cr
      refine s4_isRoom_t hi (br_f (by decide) ?_)
      by_cases cv : 1 ≤ v ∧ v ≤ 20
      · obtain ⟨n, hn, rfl⟩ := in_of (n := 20) (by decide) ⟨Int32.le_trans (by decide) cv.1, cv.2⟩
        refine s4_in_t cv.1 cv.2 (bn_f (by decide) (s4_become R R.za (fun S4 e4 => ?_)))
        subst e4
        refine ⟨22, s4_delay_l (X := X) R.ok hj8 hi hn (fun A B zA zB => ?_) 21 0 0 (-1) (x_aside X) R.zd rfl rfl⟩
        refine s5_isOne_t hk e5 hj (br_f (by decide) (s5_isRoom_t hi (br_f (by decide) (s5_in_t cv.1 cv.2 (bn_f (by decide) (s5_save_tried (fun t et => ⟨22, ?_⟩)))))))
        have okN : okS 9999 (rowH (m_tried (m_tried_s M t))) := by show okS 9999 (rowH t); rw [et]; exact R.ok5
        refine s5_delay_l (N := m_tried_s M t) okN hj8 hi hn (fun q eq => ⟨rfl, (((R.aside zB).ahead zA).tried t).row (eq.trans et)⟩) 21 0 0 (-1) (m_row M) et.symm rfl ?_
        rw [show rowH (m_tried (m_tried_s M t)) = x_live X from et.trans R.eL.symm]
      · exact s4_in_f cv (bn_t rfl (s4_finding_BEYOND (s5_isOne_t hk e5 hj (br_f (by decide) (s5_isRoom_t hi (br_f (by decide) (s5_in_f cv (bn_t rfl (s5_finds_BEYOND ⟨rfl, R.found 0⟩)))))))))
    · exact s4_isRoom_f cr (br_t rfl (s4_finding_BEYOND (s5_isOne_t hk e5 hj (br_f (by decide) (s5_isRoom_f cr (br_t rfl (s5_finds_BEYOND ⟨rfl, R.found 0⟩)))))))
  · exact s4_isDuster_f hk e4 c (br_t rfl (s4_finding_BEYOND (s5_isOne_f hk e5 c (br_t rfl (s5_finds_BEYOND ⟨rfl, R.found 0⟩)))))
/-! what the house bears -/
def dwn (p : Nat → Bool) : Nat → Option Nat
  | 0 => none
  | c + 1 => if p c then some c else dwn p c
def faS (L : HSt) (i : Nat) : HSt := h_fall_s L (nI i)
def pBear (L : HSt) (n : Nat) (now : Int32) (i : Nat) : Bool := decide (¬ now < dsum (nDay n (faS L i)))
set_option maxHeartbeats 400000 in
theorem s4_bears_l {post : Int32 → XSt → Prop} (R : Rel X M) {n : Nat} (hn : n ≤ 40) {now : Int32} (o : Option Nat) (hs : ∀ A i, zS A → o = some i → post (nI i) (x_ahead_s X A)) (h0 : ∀ A, zS A → o = none → wX4_finding post (x_ahead_s X A) (-1000000004)) : ∀ (c : Nat) (A : HSt), zS A → c ≤ 21 → o = dwn (pBear (x_live X) n now) c → wX4_bears_28 post (c + 1) (x_ahead_s X A) (nI n) now (nI c - 1) := by
  intro c
  induction c with
  | zero =>
    intro A z hc h
    rw [wX4_bears_28]
    exact br_t (by decide) (h0 A z h)
  | succ c ih =>
    intro A z hc h
    rw [wX4_bears_28, nI_pred]
    refine br_f (nI_pos (by omega)) (s4_become (X := X) R z ?_)
    intro S9 e9
    subst e9
    intro S10 e10
    subst e10
    have ok : okS 9999 (faS (x_live X) c) := R.ok.set_fall ⟨c, by omega, rfl⟩
    refine s4_dustAhead (X := X) (A := faS (x_live X) c) (D := 9999) (by omega) ok ?_
    have z2 := (ok.dayN n (by omega)).z
    rw [dwn] at h
    refine br_c (fun q => ?_) (fun q => ?_)
    · rw [if_neg (by simpa [pBear] using q)] at h
      rw [show nI c + (-1) = nI c - 1 from (Int32.sub_eq_add_neg (a := nI c) (b := 1)).symm]
      exact ih _ z2 (by omega) h
    · rw [if_pos (by simpa [pBear] using q)] at h
      exact hs _ c z2 h
set_option maxHeartbeats 400000 in
theorem s5_bears_l {post : Int32 → MSt → Prop} {N : MSt} (okN : okS 9999 (rowH (m_tried N))) {n : Nat} (hn : n ≤ 40) {now : Int32} (o : Option Nat) (hs : ∀ q i, rowH q = rowH (m_tried N) → o = some i → post (nI i) (m_row_s N q)) (h0 : ∀ q, rowH q = rowH (m_tried N) → o = none → wX5_finds post (m_row_s N q) (-1000000004)) : ∀ (c : Nat) (q : Nat → Int32), rowH q = rowH (m_tried N) → c ≤ 21 → o = dwn (pBear (rowH (m_tried N)) n now) c → wX5_bears_37 post (c + 2) (m_row_s N q) (nI n) (nI c) now 0 := by
  intro c
  induction c with
  | zero =>
    intro q eq hc h
    rw [wX5_bears_37]
    exact br_t (by decide) (br_t rfl (h0 q eq h))
  | succ c ih =>
    intro q eq hc h
    rw [wX5_bears_37, pk_m1, cl1]
    refine br_f (nI_nle (by omega) (by omega)) ⟨fun z => absurd rfl z, fun _ => ⟨vp1, fun S13 e13 => ?_⟩⟩
    subst e13
    have e1 : rowH (upd (m_row (m_row_s N q)) 1 (nI c)) = faS (rowH (m_tried N)) c := by
      rw [rowU_fall]
      show h_fall_s (rowH q) (nI c) = _
      rw [eq]
      rfl
    refine s5_dustBehind (N := N) (q := upd (m_row (m_row_s N q)) 1 (nI c)) (D := 9999) (by omega) (by rw [e1]; exact okN.set_fall ⟨c, by omega, rfl⟩) (fun q2 e2 => ?_)
    rw [e1]
    rw [dwn] at h
    refine br_c (fun z => ?_) (fun z => ?_)
    · rw [if_neg (by simpa [pBear] using z)] at h
      exact ih q2 e2 (by omega) h
    · rw [if_pos (by simpa [pBear] using z)] at h
      rw [wX5_bears_37]
      refine ⟨fun _ => br_f (by decide) (hs q2 c e2 h), fun _ => ⟨fun _ => br_f (by decide) (hs q2 c e2 h), fun z => absurd z (by decide)⟩⟩
set_option maxHeartbeats 400000 in
theorem op_bears (R : Rel X M) (v : Int32) : wX4_bears (fun a T => wX5_bears (fun b N => a = b ∧ Rel T N) M v) X v := by
  by_cases cv : 1 ≤ v ∧ v ≤ 40
  · obtain ⟨n, hn, rfl⟩ := in_of (n := 40) (by decide) ⟨Int32.le_trans (by decide) cv.1, cv.2⟩
    refine s4_in_t cv.1 cv.2 (bn_f (by decide) (s0_dsum ?_))
    have mm : ∀ (post : Int32 → MSt → Prop), (∀ t, rowH t = rowH (m_row M) → ∃ f, wX5_bears_37 post f (m_tried_s M t) (nI n) 21 (dsum (x_live X)) 0) → wX5_bears post M (nI n) := fun post h => s5_in_t cv.1 cv.2 (bn_f (by decide) (s5_dsum R.ok5 (by rw [← R.eL]; exact s5_save_tried h)))
    refine ⟨22, s4_bears_l (X := X) R hn (now := dsum (x_live X)) (dwn (pBear (x_live X) n (dsum (x_live X))) 21) (fun A i z e => mm _ (fun t et => ⟨23, ?_⟩)) (fun A z e => s4_finding_NONE (mm _ (fun t et => ⟨23, ?_⟩))) 21 (x_ahead X) R.za (by omega) rfl⟩
    · have okN : okS 9999 (rowH (m_tried (m_tried_s M t))) := by show okS 9999 (rowH t); rw [et]; exact R.ok5
      refine s5_bears_l (N := m_tried_s M t) okN hn (dwn (pBear (x_live X) n (dsum (x_live X))) 21) (fun q i2 eq e2 => ⟨?_, ((R.ahead z).tried t).row (eq.trans et)⟩) (fun q eq e2 => absurd (e.symm.trans e2) (by simp)) 21 (m_row M) et.symm (by omega) ?_
      · rw [show rowH (m_tried (m_tried_s M t)) = x_live X from et.trans R.eL.symm]
      · rw [e] at e2
        cases e2
        rfl
    · have okN : okS 9999 (rowH (m_tried (m_tried_s M t))) := by show okS 9999 (rowH t); rw [et]; exact R.ok5
      refine s5_bears_l (N := m_tried_s M t) okN hn (dwn (pBear (x_live X) n (dsum (x_live X))) 21) (fun q i2 eq e2 => absurd (e.symm.trans e2) (by simp)) (fun q eq e2 => s5_finds_NONE ⟨rfl, (((R.ahead z).tried t).row (eq.trans et)).found 3⟩) 21 (m_row M) et.symm (by omega) ?_
      rw [show rowH (m_tried (m_tried_s M t)) = x_live X from et.trans R.eL.symm]
  · exact s4_in_f cv (bn_t rfl (s4_finding_BEYOND (s5_in_f cv (bn_t rfl (s5_finds_BEYOND ⟨rfl, R.found 0⟩)))))
/-! the fullest -/
def fuF (A : HSt) (i : Nat) : Int32 := popc (h_memories A i)
set_option maxHeartbeats 400000 in
theorem s4_fullest_l {post : Int32 → XSt → Prop} {A : HSt} {r : Int32} (hp : post r (x_ahead_s X A)) : ∀ (c i : Nat) (b l : Int32), i + c = 8 → r = argM (fuF A) c i b l → wX4_fullest_29 post (c + 1) (x_ahead_s X A) b l (nI i) := by
  intro c
  induction c with
  | zero =>
    intro i b l e h
    rw [wX4_fullest_29]
    have h : r = b := h
    exact br_t (nI_le (a := 8) (by omega) (by omega)) (h ▸ hp)
  | succ c ih =>
    intro i b l e h
    have hi : i < 8 := by omega
    rw [wX4_fullest_29, c8 hi]
    refine br_f (nI_ge (b := 8) (by omega) (by omega)) ⟨v8 hi, s6_bitCount ?_⟩
    rw [argM] at h
    refine br_c (fun q => ?_) (fun q => ?_)
    · rw [if_pos (show fuF A i ≤ l from q)] at h
      rw [← nI_succ]
      exact ih (i + 1) _ _ (by omega) h
    · rw [if_neg (show ¬ fuF A i ≤ l from q)] at h
      rw [← nI_succ]
      exact ih (i + 1) _ _ (by omega) h
set_option maxHeartbeats 400000 in
theorem s5_fullest_l {post : Int32 → MSt → Prop} {N : MSt} {q : Nat → Int32} {D : Nat} (ok : okS D (rowH q)) {r : Int32} (hp : ∀ q2, rowH q2 = rowH (m_tried N) → post r (m_row_s N q2)) : ∀ (c i b : Nat), b < 8 → i + c = 8 → r = argM (fuF (rowH q)) c i (nI b) (fuF (rowH q) b) → wX5_fullest_35 post (c + 1) (m_row_s N q) (nI b) (nI i) := by
  intro c
  induction c with
  | zero =>
    intro i b hb e h
    rw [wX5_fullest_35]
    have h : r = nI b := h
    exact br_t (nI_le (a := 8) (by omega) (by omega)) (s5_back_tried (fun q2 e2 => h ▸ hp q2 e2))
  | succ c ih =>
    intro i b hb e h
    have hi : i < 8 := by omega
    rw [wX5_fullest_35]
    refine br_f (nI_ge (b := 8) (by omega) (by omega)) (s5_there_memories hi (s5_bits (ok.mem i) (s5_there_memories hb (s5_bits (ok.mem b) ?_))))
    rw [argM] at h
    refine br_c (fun q0 => ?_) (fun q0 => ?_)
    · rw [if_pos (show fuF (rowH q) i ≤ fuF (rowH q) b from q0)] at h
      rw [← nI_succ]
      exact ih (i + 1) b hb (by omega) h
    · rw [if_neg (show ¬ fuF (rowH q) i ≤ fuF (rowH q) b from q0)] at h
      rw [← nI_succ]
      exact ih (i + 1) i hi (by omega) h
set_option maxHeartbeats 400000 in
theorem op_fullest (R : Rel X M) (v : Int32) : wX4_fullest (fun a T => wX5_fullest (fun b N => a = b ∧ Rel T N) M v) X v := by
  by_cases cv : 0 ≤ v ∧ v ≤ 100
  · obtain ⟨n, hn, rfl⟩ := in_of (n := 100) (by decide) cv
    have okA := R.ok.dayN n (by omega)
    have ok5 := R.ok5.dayN n (by omega)
    refine s4_in_t cv.1 cv.2 (bn_f (by decide) (s4_lookAhead R hn ⟨9, s4_fullest_l (X := X) (A := nDay n (x_live X)) ?_ 8 0 0 (-1) rfl rfl⟩))
    refine s5_in_t cv.1 cv.2 (bn_f (by decide) (s5_save_tried (fun t et => s5_passes (D := 9999) (M := m_tried_s M t) (by omega) R.ok5 (fun q eq => ⟨8, ?_⟩))))
    replace eq : rowH q = nDay n (rowH (m_row M)) := eq
    refine s5_fullest_l (N := m_tried_s M t) (q := q) (D := 9999 + n) (by rw [eq]; exact ok5) (fun q2 e2 => ⟨rfl, ((R.ahead okA.z).tried t).row (e2.trans et)⟩) 7 1 0 (by omega) rfl ?_
    rw [eq, ← R.eL]
    generalize hA : nDay n (x_live X) = A at okA
    obtain ⟨j, hj, ej⟩ := Rg_popc (okA.mem 0)
    have hf : ¬ fuF A 0 ≤ -1 := by
      show ¬ popc (h_memories A 0) ≤ -1
      rw [ej]
      exact Int32.not_le.mpr (Int32.lt_of_lt_of_le (by decide) (nI_pos' (by omega)))
    rw [show (8 : Nat) = 7 + 1 from rfl, argM, if_neg hf]
  · exact s4_in_f cv (bn_t rfl (s4_finding_BEYOND (s5_in_f cv (bn_t rfl (s5_finds_BEYOND ⟨rfl, R.found 0⟩)))))
end Ops4
