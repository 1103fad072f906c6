section Ops10
variable {X : XSt} {M : MSt}
/-! the reader -/
def soB (g : Nat → Int64) (A : HSt) (r : Nat) : Nat → Nat → Bool
  | 0, _ => true
  | c + 1, i => if lg_cmp (g i) (Int32.toInt64 (h_memories (nDay i A) r)) = 0 then soB g A r c (i + 1) else false
set_option maxHeartbeats 400000 in
theorem soB_same {g g2 : Nat → Int64} {A : HSt} {r : Nat} : ∀ (c i : Nat), i + c ≤ 40 → (∀ j, j < 40 → g j = g2 j) → soB g A r c i = soB g2 A r c i := by
  intro c
  induction c with
  | zero => intro i _ _; rfl
  | succ c ih =>
    intro i hi h
    rw [soB, soB, h i (by omega), ih (i + 1) (by omega) h]
set_option maxHeartbeats 400000 in
theorem s4_goesAs_l {post : Int32 → XSt → Prop} {k z r : Nat} {A : HSt} (okA : okS 9999 A) (hr : r < 8) (hz : z ≤ 40) (ez : s_size (x_sh X k) = nI z) {b : Bool} (h : ∀ B, zS B → post (if b then 1 else 0) (x_ahead_s X B)) : ∀ (c i : Nat), i + c = z → b = soB (s_numbers (x_sh X k)) A r c i → wX4_aheadGoesAs_2 post k (c + 1) (x_ahead_s X (nDay i A)) (nI r) (nI i) := by
  intro c
  induction c with
  | zero =>
    intro i e hb
    rw [wX4_aheadGoesAs_2, show s_size (x_sh (x_ahead_s X (nDay i A)) k) = nI z from ez]
    replace hb : b = true := hb
    subst hb
    exact br_t (nI_le (by omega) (by omega)) (h _ (okA.dayN i (by omega)).z)
  | succ c ih =>
    intro i e hb
    rw [wX4_aheadGoesAs_2, show s_size (x_sh (x_ahead_s X (nDay i A)) k) = nI z from ez, c8 hr, nI_clamp (n := i) (by omega)]
    refine br_f (nI_ge (by omega) (by omega)) ⟨v40 (by omega), v8 hr, ?_⟩
    rw [soB] at hb
    refine br_c (fun q => ?_) (fun q => ?_)
    · rw [if_pos (show lg_cmp (s_numbers (x_sh X k) i) (h_memories (nDay i A) r).toInt64 = 0 from q)] at hb
      refine s0_goDay (D := 9999 + i) (S := nDay i A) (by omega) (okA.dayN i (by omega)) (fun S4 e4 => ?_)
      subst e4
      rw [← nI_succ, ← nDay_s]
      exact ih (i + 1) (by omega) hb
    · rw [if_neg (show ¬ lg_cmp (s_numbers (x_sh X k) i) (h_memories (nDay i A) r).toInt64 = 0 from q)] at hb
      subst hb
      exact h _ (okA.dayN i (by omega)).z
set_option maxHeartbeats 400000 in
theorem s4_goesAs {post : Int32 → XSt → Prop} {k z r : Nat} {A : HSt} (okA : okS 9999 A) (hr : r < 8) (hz : z ≤ 40) (ez : s_size (x_sh X k) = nI z) (h : ∀ B, zS B → post (if soB (s_numbers (x_sh X k)) A r z 0 then 1 else 0) (x_ahead_s X B)) : wX4_aheadGoesAs post (x_ahead_s X A) k (nI r) := ⟨z + 1, s4_goesAs_l okA hr hz ez h z 0 (by omega) rfl⟩
set_option maxHeartbeats 400000 in
theorem s5_isSo_l {post : Int32 → MSt → Prop} {N : MSt} {k z r : Nat} {A : HSt} (okA : okS 9999 A) (h4 : k < 4) (hr : r < 8) (hz : z ≤ 40) (ez : m_sizeOf N k = nI z) {b : Bool} (h : ∀ q, post (if b then 1 else 0) (m_row_s N q)) : ∀ (c i : Nat) (q : Nat → Int32), rowH q = nDay i A → i + c = z → b = soB (fun i => m_sheets N (40 * k + i)) A r c i → wX5_isSo_5 post (c + 1) (m_row_s N q) (nI k) (nI r) 1 (nI i) := by
  intro c
  induction c with
  | zero =>
    intro i q eq e hb
    rw [wX5_isSo_5, c4 h4, show m_sizeOf (m_row_s N q) k = nI z from ez]
    replace hb : b = true := hb
    subst hb
    exact ⟨v4 h4, br_t (nI_le (by omega) (by omega)) ⟨Or.inr rfl, h q⟩⟩
  | succ c ih =>
    intro i q eq e hb
    rw [wX5_isSo_5, c4 h4, show m_sizeOf (m_row_s N q) k = nI z from ez]
    refine ⟨v4 h4, br_f (nI_ge (by omega) (by omega)) (br_f (by decide) ?_)⟩
    rw [ix40, nI_clamp (n := 40 * k + i) (by omega)]
    refine ⟨vp_in_nI (by omega) (by decide), s5_there_memories hr ?_⟩
    have em : h_memories (rowH (m_row (m_row_s N q))) r = h_memories (nDay i A) r := by
      show h_memories (rowH q) r = _
      rw [eq]
    rw [em]
    have okI : okS (9999 + i) (rowH (m_row (m_row_s N q))) := by
      show okS (9999 + i) (rowH q)
      rw [eq]
      exact okA.dayN i (by omega)
    rw [soB] at hb
    refine ⟨fun q0 => ?_, fun q0 => ?_⟩
    · rw [if_neg (show ¬ lg_cmp (m_sheets N (40 * k + i)) (h_memories (nDay i A) r).toInt64 = 0 from q0)] at hb
      subst hb
      refine s5_oneDay (D := 9999 + i) (by omega) okI (fun q2 e2 => ?_)
      rw [wX5_isSo_5, c4 h4]
      refine ⟨v4 h4, br_c (fun _ => ⟨Or.inl rfl, h q2⟩) (fun _ => br_t rfl ⟨Or.inl rfl, h q2⟩)⟩
    · rw [if_pos (show lg_cmp (m_sheets N (40 * k + i)) (h_memories (nDay i A) r).toInt64 = 0 from q0)] at hb
      refine s5_oneDay (D := 9999 + i) (by omega) okI (fun q2 e2 => ?_)
      replace e2 : rowH q2 = dayS (rowH q) := e2
      rw [eq, ← nDay_s] at e2
      rw [← nI_succ]
      exact ih (i + 1) q2 e2 (by omega) hb
set_option maxHeartbeats 400000 in
theorem s5_isSo {post : Int32 → MSt → Prop} {N : MSt} {k z r : Nat} {q : Nat → Int32} (okA : okS 9999 (rowH q)) (h4 : k < 4) (hr : r < 8) (hz : z ≤ 40) (ez : m_sizeOf N k = nI z) (h : ∀ q2, post (if soB (fun i => m_sheets N (40 * k + i)) (rowH q) r z 0 then 1 else 0) (m_row_s N q2)) : wX5_isSo post (m_row_s N q) (nI k) (nI r) := ⟨z + 1, s5_isSo_l okA h4 hr hz ez h z 0 q rfl (by omega) rfl⟩
def kdR (L : HSt) (d : Nat) (a b : Nat) : HSt := h_rounds_s (h_kinds_s L (upd (h_kinds L) d (nI a))) (upd (h_rounds L) d (nI b))
set_option maxHeartbeats 400000 in
theorem okS.kdR {D : Nat} {L : HSt} (ok : okS D L) {d a b : Nat} (hd : d < 8) (ha : a ≤ 5) (hb : b ≤ 7) : okS D (kdR L d a b) := (ok.set_kinds hd ⟨a, ha, rfl⟩).set_rounds hd ⟨b, hb, rfl⟩
def cntF (g : Nat → Int64) (L : HSt) (d r z : Nat) (code : Nat) (n : Int32) : Int32 := if soB g (kdR L d (code / 8) (code % 8)) r z 0 then n + 1 else n
set_option maxHeartbeats 400000 in
theorem itN_add {α : Type} {f : Nat → α → α} : ∀ (a b i : Nat) (x : α), itN f (a + b) i x = itN f b (i + a) (itN f a i x) := by
  intro a
  induction a with
  | zero => intro b i x; rw [Nat.zero_add]; rfl
  | succ a ih =>
    intro b i x
    rw [Nat.succ_add]
    show itN f (a + b) (i + 1) (f i x) = itN f b (i + (a + 1)) (itN f a (i + 1) (f i x))
    rw [ih b (i + 1) (f i x), show i + 1 + a = i + (a + 1) from by omega]
set_option maxHeartbeats 400000 in
theorem s4_read_71 {post : Int32 → XSt → Prop} {k62 : XSt → Int32 → Int32 → Int32 → Int32 → Prop} (R : Rel X M) {k z r d K : Nat} (hd : d < 8) (hr : r < 8) (hz : z ≤ 40) (hK : K ≤ 5) (ez : s_size (x_sh X k) = nI z) {v : Int32} (h : ∀ A, zS A → k62 (x_ahead_s X A) (nI r) (nI d) v (nI K + 1)) : ∀ (c j : Nat) (n : Int32) (A : HSt), zS A → j + c = 8 → v = itN (cntF (s_numbers (x_sh X k)) (x_live X) d r z) c (8 * K + j) n → wX4_read_71 post k62 k (c + 1) (x_ahead_s X A) (nI r) (nI d) n (nI K) (nI j) := by
  intro c
  induction c with
  | zero =>
    intro j n A zA e hv
    rw [wX4_read_71]
    replace hv : v = n := hv
    subst hv
    exact br_t (nI_le (a := 8) (by omega) (by omega)) (h A zA)
  | succ c ih =>
    intro j n A zA e hv
    rw [wX4_read_71]
    refine br_f (nI_ge (b := 8) (by omega) (by omega)) (s4_become (X := X) R zA ?_)
    intro S16 e16
    subst e16
    rw [c8 hd]
    refine ⟨v8 hd, fun S17 e17 => ⟨v8 hd, fun S18 e18 => ?_⟩⟩
    subst e17; subst e18
    have ok : okS 9999 (kdR (x_live X) d K j) := R.ok.kdR hd hK (by omega)
    refine s4_goesAs (X := X) (A := kdR (x_live X) d K j) ok hr hz ez (fun B zB => ?_)
    rw [itN, cntF, show (8 * K + j) / 8 = K from by omega, show (8 * K + j) % 8 = j from by omega] at hv
    rw [← nI_succ]
    cases hb : soB (s_numbers (x_sh X k)) (kdR (x_live X) d K j) r z 0
    · rw [hb] at hv
      exact br_t rfl (ih (j + 1) n B zB (by omega) hv)
    · rw [hb] at hv
      exact br_f (by decide) (ih (j + 1) (n + 1) B zB (by omega) hv)
set_option maxHeartbeats 400000 in
theorem s4_read_62 {post : Int32 → XSt → Prop} (R : Rel X M) {k z r d : Nat} (hd : d < 8) (hr : r < 8) (hz : z ≤ 40) (ez : s_size (x_sh X k) = nI z) {v : Int32} (h : ∀ A, zS A → post v (x_ahead_s X A)) : ∀ (c K : Nat) (n : Int32) (A : HSt), zS A → K + c = 6 → v = itN (cntF (s_numbers (x_sh X k)) (x_live X) d r z) (8 * c) (8 * K) n → wX4_read_62 post k (c + 1) (x_ahead_s X A) (nI r) (nI d) n (nI K) := by
  intro c
  induction c with
  | zero =>
    intro K n A zA e hv
    rw [wX4_read_62]
    replace hv : v = n := hv
    subst hv
    exact br_t (nI_lt (a := 5) (by omega) (by omega)) (h A zA)
  | succ c ih =>
    intro K n A zA e hv
    rw [wX4_read_62]
    refine br_f (nI_nlt (a := 5) (by omega) (by omega)) ⟨9, ?_⟩
    rw [show 8 * (c + 1) = 8 + 8 * c from by omega, itN_add] at hv
    refine s4_read_71 R hd hr hz (by omega) ez (v := itN (cntF (s_numbers (x_sh X k)) (x_live X) d r z) 8 (8 * K) n) (fun B zB => ?_) 8 0 n A zA rfl rfl
    rw [← nI_succ]
    exact ih (K + 1) _ B zB (by omega) hv
set_option maxHeartbeats 400000 in
theorem s5_read_l {post : Int32 → MSt → Prop} {N : MSt} {k z r d : Nat} (okN : okS 9999 (rowH (m_before1 N))) (h4 : k < 4) (hd : d < 8) (hr : r < 8) (hz : z ≤ 40) (ez : m_sizeOf N k = nI z) {v : Int32} (h : ∀ q, rowH q = rowH (m_before1 N) → post v (m_row_s N q)) : ∀ (c i : Nat) (n : Int32) (q : Nat → Int32), rowH q = rowH (m_before1 N) → i + c = 48 → v = itN (cntF (fun i => m_sheets N (40 * k + i)) (rowH (m_before1 N)) d r z) c i n → wX5_read_56 post (c + 1) (m_row_s N q) (nI k) (nI r) (nI d) n (nI i) := by
  intro c
  induction c with
  | zero =>
    intro i n q eq e hv
    rw [wX5_read_56]
    replace hv : v = n := hv
    subst hv
    exact br_t (nI_le (a := 48) (by omega) (by omega)) (h q eq)
  | succ c ih =>
    intro i n q eq e hv
    rw [wX5_read_56]
    rw [show nI i / 8 = nI (i / 8) from pk_div (d := 8) (by omega) (by decide) (by decide)]
    refine br_f (nI_ge (b := 48) (by omega) (by omega)) (s5_puts_kinds hd (fun q1 e1 => ?_))
    rw [show nI i - nI (i / 8) * 8 = nI (i % 8) from by rw [show nI (i / 8) * 8 = nI (i / 8 * 8) from nI_mul (i / 8) 8, nI_sub (by omega)]; exact congrArg nI (by omega)]
    refine s5_puts_rounds hd (fun q2 e2 => ?_)
    replace e2 : rowH q2 = h_rounds_s (rowH q1) (upd (h_rounds (rowH q1)) d (nI (i % 8))) := e2
    have e3 : rowH q2 = kdR (rowH (m_before1 N)) d (i / 8) (i % 8) := by
      rw [e2, e1]
      show kdR (rowH q) d (i / 8) (i % 8) = _
      rw [eq]
    have ok : okS 9999 (rowH q2) := by
      rw [e3]
      exact okN.kdR hd (by omega) (by omega)
    refine s5_isSo (N := N) (q := q2) ok h4 hr hz ez (fun q3 => ?_)
    rw [e3]
    rw [itN, cntF] at hv
    rw [← nI_succ]
    cases hb : soB (fun i => m_sheets N (40 * k + i)) (kdR (rowH (m_before1 N)) d (i / 8) (i % 8)) r z 0
    · rw [hb] at hv
      refine br_t rfl (fun y ey => ?_)
      rw [Int32.add_zero] at ey
      subst ey
      exact s5_back_before1 (fun q4 e4 => ih (i + 1) _ q4 e4 (by omega) hv)
    · rw [hb] at hv
      refine br_f (by decide) (fun y ey => ?_)
      subst ey
      exact s5_back_before1 (fun q4 e4 => ih (i + 1) _ q4 e4 (by omega) hv)
set_option maxHeartbeats 400000 in
theorem cnt_same {g g2 : Nat → Int64} {L : HSt} {d r z : Nat} (hz : z ≤ 40) (h : ∀ j, j < 40 → g j = g2 j) : cntF g L d r z = cntF g2 L d r z := by
  funext c n
  unfold cntF
  rw [soB_same z 0 (by omega) h]
set_option maxHeartbeats 400000 in
theorem op_read (R : Rel X M) (s r d : Int32) : wX4_read (fun a T => wX5_read (fun b N => a = b ∧ Rel T N) M s r d) X s r d := by
  obtain ⟨kk, hkk, e4, e5⟩ := R.many
  by_cases c : ∃ j, j < 4 ∧ s = nI j
  · obtain ⟨k, h4, rfl⟩ := c
    obtain ⟨q1, q2, q3, ⟨z, hz, ez⟩⟩ := R.sh h4
    have ez4 : s_size (x_sh X k) = nI z := q2.trans ez
    refine s4_sheetAt_t h4 (sho_some h4 ?_)
    by_cases cm : s_bits (x_sh X k) = 0
    · exact s2_isMissing_t cm (br_f (by decide) (s4_finding_MISSING (s5_badSheet_m h4 (q1 ▸ cm) (br_f (by decide) (s5_finds_MISSING ⟨rfl, R.found 5⟩)))))
    · refine s2_isMissing_f cm (br_t rfl ?_)
      by_cases cr : ∃ j, j < 8 ∧ r = nI j
      · obtain ⟨j, hj, rfl⟩ := cr
        refine s4_isRoom_t hj (br_f (by decide) ?_)
        by_cases cd : ∃ j, j < kk ∧ d = nI j
        · obtain ⟨i, hi, rfl⟩ := cd
          have hi8 : i < 8 := by omega
          refine s4_isDuster_t hkk e4 hi (bn_f (by decide) ⟨7, s4_read_62 (X := X) R hi8 hj hz ez4 (fun A zA => ?_) 6 0 0 (x_ahead X) R.za rfl rfl⟩)
          refine s5_badSheet_t h4 (q1 ▸ cm) (br_t rfl (s5_isRoom_t hj (br_f (by decide) (s5_isOne_t hkk e5 hi (bn_f (by decide) (s5_save_before1 (fun t et => ⟨49, ?_⟩)))))))
          have okN : okS 9999 (rowH (m_before1 (m_before1_s M t))) := by show okS 9999 (rowH t); rw [et]; exact R.ok5
          refine s5_read_l (N := m_before1_s M t) okN h4 hi8 hj hz ez (fun q eq => ⟨rfl, ((R.ahead zA).before1 t).row (eq.trans et)⟩) 48 0 0 (m_row M) et.symm rfl ?_
          rw [show rowH (m_before1 (m_before1_s M t)) = x_live X from et.trans R.eL.symm]
          rw [cnt_same (g2 := fun i => m_sheets M (40 * k + i)) hz q3]
          rfl
        · exact s4_isDuster_f hkk e4 cd (bn_t rfl (s4_finding_BEYOND (s5_badSheet_t h4 (q1 ▸ cm) (br_t rfl (s5_isRoom_t hj (br_f (by decide) (s5_isOne_f hkk e5 cd (bn_t rfl (s5_finds_BEYOND ⟨rfl, R.found 0⟩)))))))))
      · exact s4_isRoom_f cr (br_t rfl (s4_finding_BEYOND (s5_badSheet_t h4 (q1 ▸ cm) (br_t rfl (s5_isRoom_f cr (br_t rfl (s5_finds_BEYOND ⟨rfl, R.found 0⟩)))))))
  · exact s4_sheetAt_f c (sho_none (s4_finding_BEYOND (s5_badSheet_f c (br_f (by decide) (s5_finds_BEYOND ⟨rfl, R.found 0⟩)))))
end Ops10
