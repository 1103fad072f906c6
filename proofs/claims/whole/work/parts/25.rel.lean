/-! what binds the component's state to the reference's -/
def ShR (X : XSt) (M : MSt) (k : Nat) : Prop := s_bits (x_sh X k) = m_bitsOf M k ∧ s_size (x_sh X k) = m_sizeOf M k ∧ (∀ i, i < 40 → s_numbers (x_sh X k) i = m_sheets M (40 * k + i)) ∧ Rg 40 (m_sizeOf M k)
def Rel (X : XSt) (M : MSt) : Prop :=
  (x_live X = rowH (m_row M) ∧ okS 9999 (x_live X)) ∧ (zS (x_kept X) ∧ zS (x_ahead X) ∧ zS (x_aside X)) ∧
  (x_kp X = m_isKept M ∧ (x_kp X = 0 ∨ (x_kp X = 1 ∧ x_kept X = rowH (m_image M) ∧ okS 9999 (x_kept X)))) ∧ x_found X = m_found M ∧
  (t_bytes (x_tape X) = m_tape M ∧ t_length (x_tape X) = m_tapeMany M ∧ Rg 120 (m_tapeMany M) ∧ ∀ i, Rg 255 (m_tape M i)) ∧ (∀ k, k < 4 → ShR X M k)
section RelS
variable {X : XSt} {M : MSt}
theorem Rel.eL (R : Rel X M) : x_live X = rowH (m_row M) := R.1.1
theorem Rel.ok (R : Rel X M) : okS 9999 (x_live X) := R.1.2
theorem Rel.ok5 (R : Rel X M) : okS 9999 (rowH (m_row M)) := R.eL ▸ R.ok
theorem Rel.za (R : Rel X M) : zS (x_ahead X) := R.2.1.2.1
theorem Rel.zd (R : Rel X M) : zS (x_aside X) := R.2.1.2.2
theorem Rel.zk (R : Rel X M) : zS (x_kept X) := R.2.1.1
theorem Rel.live (R : Rel X M) {H : HSt} {q : Nat → Int32} (e : H = rowH q) (ok : okS 9999 H) : Rel (x_live_s X H) (m_row_s M q) := by
  obtain ⟨⟨-, -⟩, h2, h3, h4, h5, h6⟩ := R
  exact ⟨⟨e, ok⟩, h2, h3, h4, h5, h6⟩
theorem Rel.row (R : Rel X M) {q : Nat → Int32} (e : rowH q = rowH (m_row M)) : Rel X (m_row_s M q) := by
  obtain ⟨⟨h0, h1⟩, h2, h3, h4, h5, h6⟩ := R
  exact ⟨⟨h0.trans e.symm, h1⟩, h2, h3, h4, h5, h6⟩
theorem Rel.ahead (R : Rel X M) {A : HSt} (z : zS A) : Rel (x_ahead_s X A) M := by
  obtain ⟨h1, ⟨h2, -, h3⟩, h4⟩ := R
  exact ⟨h1, ⟨h2, z, h3⟩, h4⟩
theorem Rel.aside (R : Rel X M) {A : HSt} (z : zS A) : Rel (x_aside_s X A) M := by
  obtain ⟨h1, ⟨h2, h3, -⟩, h4⟩ := R
  exact ⟨h1, ⟨h2, h3, z⟩, h4⟩
theorem Rel.found (R : Rel X M) (i : Nat) : Rel (x_found_s X (upd (x_found X) i (x_found X i + 1))) (m_found_s M (upd (m_found M) i (m_found M i + 1))) := by
  obtain ⟨h1, h2, h3, h4, h5⟩ := R
  refine ⟨h1, h2, h3, ?_, h5⟩
  show upd (x_found X) i (x_found X i + 1) = upd (m_found M) i (m_found M i + 1)
  rw [h4]
theorem Rel.tried (R : Rel X M) (t : Nat → Int32) : Rel X (m_tried_s M t) := R
theorem Rel.before1 (R : Rel X M) (t : Nat → Int32) : Rel X (m_before1_s M t) := R
theorem Rel.before (R : Rel X M) (t : Nat → Int32) : Rel X (m_before_s M t) := R
theorem Rel.lent (R : Rel X M) (t : Nat → Int64) : Rel X (m_lent_s M t) := R
theorem Rel.many (R : Rel X M) : ∃ k, k ≤ 8 ∧ h_dusters (x_live X) = nI k ∧ h_dusters (rowH (m_row M)) = nI k := by
  obtain ⟨k, hk, ek⟩ := R.ok.many
  exact ⟨k, hk, ek, R.eL ▸ ek⟩
end RelS
section Ops1
variable {X : XSt} {M : MSt}
theorem op_falls (R : Rel X M) (v : Int32) : wX4_falls (fun a T => wX5_falls (fun b N => a = b ∧ Rel T N) M v) X v := by
  by_cases c : 0 ≤ v ∧ v ≤ 20
  · refine s4_in_t c.1 c.2 (bn_f (by decide) (fun y ey S4 e4 => ?_))
    subst ey; subst e4
    refine s5_in_t c.1 c.2 (br_f (by decide) (s5_bec_fall (fun q eq => ⟨by rw [R.eL], R.live ?_ ?_⟩)))
    · rw [eq, R.eL]
    · exact R.ok.set_fall (Rg.of (n := 20) (by decide) c.1 c.2)
  · refine s4_in_f c (bn_t rfl (s4_finding_BEYOND ?_))
    exact s5_in_f c (br_t rfl (s5_finds_BEYOND ⟨rfl, R.found 0⟩))
theorem s5_room35_f {post : Int32 → MSt → Prop} {x1 x2 x3 s0 : Int32} (hc : (¬ ∃ j, j < 8 ∧ x1 = nI j) ∨ s0 = 0) (h : post (-1000000001) (m_found_s M (upd (m_found M) 0 (m_found M 0 + 1)))) : wX5_room_35 post M x1 x2 x3 s0 := by
  by_cases c : ∃ j, j < 8 ∧ x1 = nI j
  · obtain ⟨j, hj, rfl⟩ := c
    refine s5_isRoom_t hj (br_f (by decide) (br_t ?_ (s5_finds_BEYOND h)))
    rcases hc with hc | hc
    · exact absurd ⟨j, hj, rfl⟩ hc
    · exact hc
  · exact s5_isRoom_f c (br_t rfl (s5_finds_BEYOND h))
theorem s5_room_f {post : Int32 → MSt → Prop} {x1 x2 x3 : Int32} (hc : (∃ j, j < 8 ∧ x1 = nI j) → (x2 = 0 → ¬ (0 ≤ x3 ∧ x3 ≤ 99)) ∧ (x2 = 1 → ¬ (0 ≤ x3 ∧ x3 ≤ 1023))) (h : post (-1000000001) (m_found_s M (upd (m_found M) 0 (m_found M 0 + 1)))) : wX5_room post M x1 x2 x3 := by
  by_cases c : ∃ j, j < 8 ∧ x1 = nI j
  · obtain ⟨q0, q1⟩ := hc c
    refine ⟨fun n0 => ⟨fun n1 => s5_room35_f (Or.inr rfl) h, fun n1 => s5_in_f (q1 n1) (br_t rfl (s5_room35_f (Or.inr rfl) h))⟩, fun n0 => s5_in_f (q0 n0) (s5_room35_f (Or.inr rfl) h)⟩
  · refine ⟨fun n0 => ⟨fun n1 => s5_room35_f (Or.inl c) h, fun n1 => ?_⟩, fun n0 => ?_⟩
    · by_cases d : 0 ≤ x3 ∧ x3 ≤ 1023
      · exact s5_in_t d.1 d.2 (br_f (by decide) (s5_room35_f (Or.inl c) h))
      · exact s5_in_f d (br_t rfl (s5_room35_f (Or.inl c) h))
    · by_cases d : 0 ≤ x3 ∧ x3 ≤ 99
      · exact s5_in_t d.1 d.2 (s5_room35_f (Or.inl c) h)
      · exact s5_in_f d (s5_room35_f (Or.inl c) h)
theorem op_room (R : Rel X M) (r w v : Int32) : wX4_room (fun a T => wX5_room (fun b N => a = b ∧ Rel T N) M r w v) X r w v := by
  have bad : ((∃ j, j < 8 ∧ r = nI j) → (w = 0 → ¬ (0 ≤ v ∧ v ≤ 99)) ∧ (w = 1 → ¬ (0 ≤ v ∧ v ≤ 1023))) → wX4_finding (fun a T => wX5_room (fun b N => a = b ∧ Rel T N) M r w v) X (-1000000001) := fun hc => s4_finding_BEYOND (s5_room_f hc ⟨rfl, R.found 0⟩)
  by_cases c : ∃ j, j < 8 ∧ r = nI j
  · obtain ⟨j, hj, rfl⟩ := c
    refine s4_isRoom_t hj (br_f (by decide) ?_)
    by_cases cw : 0 ≤ w ∧ w ≤ 1
    · refine s4_in_t cw.1 cw.2 (bn_f (by decide) ⟨fun w0 => ?_, fun w0 => ?_⟩)
      · have w1 : w = 1 := by
          obtain ⟨i, hi, rfl⟩ := in_of (n := 1) (by decide) cw
          rcases (by omega : i = 0 ∨ i = 1) with rfl | rfl
          · exact absurd rfl w0
          · rfl
        subst w1
        by_cases cv : 0 ≤ v ∧ v ≤ 1023
        · refine s4_in_t cv.1 cv.2 (bn_f (by decide) (bn_f w0 ?_))
          rw [c8 hj]
          refine ⟨v8 hj, fun y ey => ⟨v8 hj, fun S2 e2 => ?_⟩⟩
          subst ey; subst e2
          refine bn_f w0 (bn_t rfl (s5_in_t cv.1 cv.2 (br_f (by decide) (s5_isRoom_t hj (br_f (by decide) (br_f (by decide) ?_))))))
          rw [ix_memories]
          refine s5_bec_memories hj (fun q eq => ⟨by rw [R.eL], R.live ?_ ?_⟩)
          · rw [eq, R.eL]
          · exact R.ok.set_memories hj (Rg.of (n := 1023) (by decide) cv.1 cv.2)
        · exact s4_in_f cv (bn_t rfl (bad (fun _ => ⟨fun q => absurd q w0, fun _ => cv⟩)))
      · subst w0
        by_cases cv : 0 ≤ v ∧ v ≤ 99
        · refine s4_in_t cv.1 cv.2 (bn_f (by decide) (bn_t rfl ?_))
          rw [c8 hj]
          refine ⟨v8 hj, fun y ey => ⟨v8 hj, fun S2 e2 => ?_⟩⟩
          subst ey; subst e2
          refine bn_t rfl (s5_in_t cv.1 cv.2 (s5_isRoom_t hj (br_f (by decide) (br_f (by decide) ?_))))
          rw [ix_dust]
          refine s5_bec_dust hj (fun q eq => ⟨by rw [R.eL], R.live ?_ ?_⟩)
          · rw [eq, R.eL]
          · exact R.ok.set_dust hj (Rg.of (n := 99) (by decide) cv.1 cv.2)
        · exact s4_in_f cv (bn_t rfl (bad (fun _ => ⟨fun _ => cv, fun q => absurd q (by decide)⟩)))
    · refine s4_in_f cw (bn_t rfl (bad (fun _ => ⟨fun q => absurd ⟨?_, ?_⟩ cw, fun q => absurd ⟨?_, ?_⟩ cw⟩))) <;> rw [q] <;> decide
  · exact s4_isRoom_f c (br_t rfl (bad (fun q => absurd q c)))
/-! who is in a room -/
def whoF (S : HSt) (r : Nat) (d : Nat) (a : Int32) : Int32 := if whN S d = r then a ||| (1 <<< (nI d &&& 31)) else a
def who (S : HSt) (r : Nat) : Int32 := itN (whoF S r) (h_dusters S).toNatClampNeg 0 0
theorem s0_who_l {post : Int32 → Prop} {D : Nat} {S : HSt} (hD : D < 2 ^ 20) (ok : okS D S) {k r : Nat} (hk : k ≤ 8) (hr : r < 8) (ek : h_dusters S = nI k) : ∀ (c i : Nat) (a : Int32), i + c = k → post (itN (whoF S r) c i a) → wX0_whoIsIn_4 post S (c + 1) (nI r) a (nI i) := by
  intro c
  induction c with
  | zero =>
    intro i a e h
    rw [wX0_whoIsIn_4, ek]
    exact br_t (nI_le (by omega) (by omega)) h
  | succ c ih =>
    intro i a e h
    have hi : i < 8 := by omega
    have hw := whN_lt S i
    rw [wX0_whoIsIn_4, ek]
    refine br_f (nI_ge (by omega) (by omega)) (s0_whereIs hD ok hi ?_)
    rw [itN, whoF] at h
    by_cases q : whN S i = r
    · rw [if_pos q] at h
      rw [q]
      refine bn_t rfl (fun y ey => ?_)
      rw [ey, ← nI_succ]
      exact ih (i + 1) _ (by omega) h
    · rw [if_neg q] at h
      refine bn_f (fun z => q ((nI_eq (by omega) (by omega)).mp z)) ?_
      rw [← nI_succ]
      exact ih (i + 1) _ (by omega) h
theorem s0_whoIsIn {post : Int32 → Prop} {D : Nat} {S : HSt} {r : Nat} (hD : D < 2 ^ 20) (ok : okS D S) (hr : r < 8) (h : post (who S r)) : wX0_whoIsIn post S (nI r) := by
  obtain ⟨k, hk, ek⟩ := ok.many
  unfold who at h
  rw [ek, nI_clamp (by omega)] at h
  exact ⟨k + 1, s0_who_l hD ok hk hr ek k 0 _ (by omega) h⟩
theorem s5_who_l {post : Int32 → Prop} {D : Nat} {M : MSt} (hD : D < 2 ^ 20) (ok : okS D (rowH (m_row M))) {k r : Nat} (hk : k ≤ 8) (hr : r < 8) (ek : h_dusters (rowH (m_row M)) = nI k) : ∀ (c i : Nat) (a : Int32), i + c = k → post (itN (whoF (rowH (m_row M)) r) c i a) → wX5_inRoom_4 post M (c + 1) (nI r) a (nI i) := by
  intro c
  induction c with
  | zero =>
    intro i a e h
    rw [wX5_inRoom_4, cl2, show m_row M 2 = nI k from ek]
    exact ⟨vp2, br_t (nI_le (by omega) (by omega)) h⟩
  | succ c ih =>
    intro i a e h
    have hi : i < 8 := by omega
    have hw := whN_lt (rowH (m_row M)) i
    rw [wX5_inRoom_4, cl2, show m_row M 2 = nI k from ek]
    refine ⟨vp2, br_f (nI_ge (by omega) (by omega)) (s5_roomOfOne hD ok hi ?_)⟩
    rw [itN, whoF] at h
    by_cases q : whN (rowH (m_row M)) i = r
    · rw [if_pos q] at h
      rw [q]
      refine bn_t rfl (fun y ey => ?_)
      rw [ey, ← nI_succ]
      exact ih (i + 1) _ (by omega) h
    · rw [if_neg q] at h
      refine bn_f (fun z => q ((nI_eq (by omega) (by omega)).mp z)) (fun y ey => ?_)
      rw [ey, ← nI_succ, Int32.or_zero]
      exact ih (i + 1) _ (by omega) h
theorem s5_inRoom {post : Int32 → Prop} {D : Nat} {M : MSt} {r : Nat} (hD : D < 2 ^ 20) (ok : okS D (rowH (m_row M))) (hr : r < 8) (h : post (who (rowH (m_row M)) r)) : wX5_inRoom post M (nI r) := by
  obtain ⟨k, hk, ek⟩ := ok.many
  unfold who at h
  rw [ek, nI_clamp (by omega)] at h
  exact ⟨k + 1, s5_who_l hD ok hk hr ek k 0 _ (by omega) h⟩
theorem op_roomOf (R : Rel X M) (r w : Int32) : wX4_roomOf (fun a T => wX5_roomOf (fun b N => a = b ∧ Rel T N) M r w) X r w := by
  by_cases c : ∃ j, j < 8 ∧ r = nI j
  · obtain ⟨j, hj, rfl⟩ := c
    refine s4_isRoom_t hj (bn_f (by decide) ?_)
    rw [c8 hj]
    refine ⟨fun e => ⟨v8 hj, ?_⟩, fun e => ⟨v8 hj, ?_⟩, fun e => ?_, fun e => ?_⟩
    · subst e
      refine s5_isRoom_t hj (br_f (by decide) (s5_in_t (by decide) (by decide) (bn_f (by decide) (br_f (by decide) (s5_there_dust hj ⟨by rw [R.eL], R⟩)))))
    · subst e
      refine s5_isRoom_t hj (br_f (by decide) (s5_in_t (by decide) (by decide) (bn_f (by decide) (br_f (by decide) (s5_there_memories hj ⟨by rw [R.eL], R⟩)))))
    · subst e
      refine s0_whoIsIn (by decide) R.ok hj ?_
      refine s5_isRoom_t hj (br_f (by decide) (s5_in_t (by decide) (by decide) (bn_f (by decide) (br_t (by decide) (s5_inRoom (by decide) R.ok5 hj ⟨by rw [R.eL], R⟩)))))
    · refine s4_finding_BEYOND (s5_isRoom_t hj (br_f (by decide) (s5_in_f (fun q => ?_) (bn_t rfl (s5_finds_BEYOND ⟨rfl, R.found 0⟩)))))
      obtain ⟨i, hi, rfl⟩ := in_of (n := 2) (by decide) q
      rw [nI_toInt (by omega)] at e
      omega
  · exact s4_isRoom_f c (bn_t rfl (s4_finding_BEYOND (s5_isRoom_f c (br_t rfl (s5_finds_BEYOND ⟨rfl, R.found 0⟩)))))
theorem op_now (R : Rel X M) (w : Int32) : wX4_now (fun a T => wX5_now (fun b N => a = b ∧ Rel T N) M w) X w := by
  refine ⟨fun e => ?_, fun e => ?_, fun e => ?_, fun e => ?_, fun e => ?_, fun e => ?_, fun e => ?_⟩
  · subst e
    refine ⟨fun _ => ⟨vp0, ?_, R⟩, fun q => absurd q (by decide), fun q => absurd q (by decide), fun q => absurd q (by decide), fun q => absurd q (by decide), fun q => absurd q (by decide), fun q => absurd q (by decide)⟩
    rw [R.eL]; rfl
  · subst e
    refine ⟨fun q => absurd q (by decide), fun _ => ⟨vp1, ?_, R⟩, fun q => absurd q (by decide), fun q => absurd q (by decide), fun q => absurd q (by decide), fun q => absurd q (by decide), fun q => absurd q (by decide)⟩
    rw [R.eL]; rfl
  · subst e
    refine s0_dsum ⟨fun q => absurd q (by decide), fun q => absurd q (by decide), fun _ => s5_dsum R.ok5 ⟨by rw [R.eL], R⟩, fun q => absurd q (by decide), fun q => absurd q (by decide), fun q => absurd q (by decide), fun q => absurd q (by decide)⟩
  · subst e
    refine s0_mall ⟨fun q => absurd q (by decide), fun q => absurd q (by decide), fun q => absurd q (by decide), fun _ => s5_mall R.ok5 ⟨by rw [R.eL], R⟩, fun q => absurd q (by decide), fun q => absurd q (by decide), fun q => absurd q (by decide)⟩
  · subst e
    refine s0_many ⟨fun q => absurd q (by decide), fun q => absurd q (by decide), fun q => absurd q (by decide), fun q => absurd q (by decide), fun _ => s5_many R.ok5 ⟨by rw [R.eL], R⟩, fun q => absurd q (by decide), fun q => absurd q (by decide)⟩
  · subst e
    refine s0_mheld R.ok ⟨fun q => absurd q (by decide), fun q => absurd q (by decide), fun q => absurd q (by decide), fun q => absurd q (by decide), fun q => absurd q (by decide), fun _ => s5_mheld R.ok5 ⟨by rw [R.eL], R⟩, fun q => absurd q (by decide)⟩
  · refine s4_finding_BEYOND ⟨fun q => ?_, fun q => ?_, fun q => ?_, fun q => ?_, fun q => ?_, fun q => ?_, fun _ => s5_finds_BEYOND ⟨rfl, R.found 0⟩⟩ <;> (subst q; exact absurd e (by decide))
theorem op_duster (R : Rel X M) (v : Int32) : wX4_duster (fun a T => wX5_duster (fun b N => a = b ∧ Rel T N) M v) X v := by
  obtain ⟨k, hk, e4, e5⟩ := R.many
  by_cases c : ∃ j, j < 6 ∧ v = nI j
  · obtain ⟨j, hj, rfl⟩ := c
    refine s4_isKind_t hj (bn_f (by decide) ?_)
    rw [e4]
    by_cases c2 : k < 8
    · refine br_t (nI_lt (b := 8) c2 (by decide)) (s0_addDuster c2 e4 (fun S6 e6 => ?_))
      subst e6
      refine s5_isKind_t hj (bn_f (by decide) ⟨vp2, ?_⟩)
      rw [cl2, show m_row M 2 = nI k from e5]
      refine bn_f (fun q => absurd ((nI_eq (b := 8) (by omega) (by decide)).mp q) (by omega)) (s5_adds c2 e5 (fun q eq => ⟨vp2, ?_, R.live ?_ ?_⟩))
      · show nI k = h_dusters (rowH q) - 1
        rw [eq, adS_n c2 e5]
        show nI k = h_dusters (rowH (m_row M)) + 1 - 1
        rw [e5, nI_1, nI_pred]
      · rw [eq, R.eL]
      · exact R.ok.ad c2 e4 ⟨j, by omega, rfl⟩ Rg0 Rg0
    · obtain rfl : k = 8 := by omega
      refine br_f (by decide) (s4_finding_FULL (s5_isKind_t hj (bn_f (by decide) ⟨vp2, ?_⟩)))
      rw [cl2, show m_row M 2 = nI 8 from e5]
      exact bn_t rfl (s5_finds_FULL ⟨rfl, R.found 1⟩)
  · exact s4_isKind_f c (bn_t rfl (s4_finding_BEYOND (s5_isKind_f c (bn_t rfl (s5_finds_BEYOND ⟨rfl, R.found 0⟩)))))
theorem op_of (R : Rel X M) (d w : Int32) : wX4_of (fun a T => wX5_of (fun b N => a = b ∧ Rel T N) M d w) X d w := by
  obtain ⟨k, hk, e4, e5⟩ := R.many
  by_cases c : ∃ j, j < k ∧ d = nI j
  · obtain ⟨j, hj, rfl⟩ := c
    have hj8 : j < 8 := by omega
    refine s4_isDuster_t hk e4 hj (bn_f (by decide) ?_)
    rw [c8 hj8]
    refine ⟨v8 hj8, fun y ey => ⟨v8 hj8, fun y2 ey2 => ?_⟩⟩
    subst ey; subst ey2
    refine ⟨fun e => ?_, fun e => ⟨v8 hj8, ?_⟩, fun e => ?_, fun e => ⟨v8 hj8, ?_⟩, fun e => ?_, fun e => ?_, fun e => ?_, fun e => ?_, fun e => ⟨v8 hj8, ?_⟩, fun e => ?_⟩
    · subst e
      refine s5_isOne_t hk e5 hj (br_f (by decide) (s5_in_t (by decide) (by decide) (bn_f (by decide) ⟨fun q => absurd q (by decide), fun q => absurd q (by decide), fun q => absurd q (by decide), fun q => absurd q (by decide), fun q => absurd q (by decide), fun _ => s5_its_kinds hj8 ⟨by rw [R.eL], R⟩⟩)))
    · subst e
      refine s5_isOne_t hk e5 hj (br_f (by decide) (s5_in_t (by decide) (by decide) (bn_f (by decide) ⟨fun q => absurd q (by decide), fun q => absurd q (by decide), fun q => absurd q (by decide), fun q => absurd q (by decide), fun q => absurd q (by decide), fun _ => s5_its_held hj8 ⟨by rw [R.eL], R⟩⟩)))
    · subst e
      refine s5_isOne_t hk e5 hj (br_f (by decide) (s5_in_t (by decide) (by decide) (bn_f (by decide) ⟨fun q => absurd q (by decide), fun q => absurd q (by decide), fun q => absurd q (by decide), fun q => absurd q (by decide), fun q => absurd q (by decide), fun _ => s5_its_grimes hj8 ⟨by rw [R.eL], R⟩⟩)))
    · subst e
      refine s5_isOne_t hk e5 hj (br_f (by decide) (s5_in_t (by decide) (by decide) (bn_f (by decide) ⟨fun q => absurd q (by decide), fun q => absurd q (by decide), fun q => absurd q (by decide), fun q => absurd q (by decide), fun q => absurd q (by decide), fun _ => s5_its_rounds hj8 ⟨by rw [R.eL], R⟩⟩)))
    · subst e
      refine s0_whereIs (by decide) R.ok hj8 (s5_isOne_t hk e5 hj (br_f (by decide) (s5_in_t (by decide) (by decide) (bn_f (by decide) ⟨fun _ => s5_roomOfOne (by decide) R.ok5 hj8 ⟨by rw [R.eL], R⟩, fun q => absurd q (by decide), fun q => absurd q (by decide), fun q => absurd q (by decide), fun q => absurd q (by decide), fun q => absurd q (by decide)⟩))))
    · subst e
      refine s1_wipes (R.ok.kind j) (s5_isOne_t hk e5 hj (br_f (by decide) (s5_in_t (by decide) (by decide) (bn_f (by decide) ⟨fun q => absurd q (by decide), fun _ => s5_wipes hj8 (R.ok5.kind j) (R.ok5.grime j) ⟨by rw [R.eL], R⟩, fun q => absurd q (by decide), fun q => absurd q (by decide), fun q => absurd q (by decide), fun q => absurd q (by decide)⟩))))
    · subst e
      refine s1_takesUp (R.ok.kind j) (s5_isOne_t hk e5 hj (br_f (by decide) (s5_in_t (by decide) (by decide) (bn_f (by decide) ⟨fun q => absurd q (by decide), fun q => absurd q (by decide), fun _ => s5_takesUp hj8 (R.ok5.kind j) ⟨by rw [R.eL], R⟩, fun q => absurd q (by decide), fun q => absurd q (by decide), fun q => absurd q (by decide)⟩))))
    · subst e
      refine s1_leaves (R.ok.kind j) (s5_isOne_t hk e5 hj (br_f (by decide) (s5_in_t (by decide) (by decide) (bn_f (by decide) ⟨fun q => absurd q (by decide), fun q => absurd q (by decide), fun q => absurd q (by decide), fun _ => s5_leaves hj8 (R.ok5.kind j) (R.ok5.grime j) ⟨by rw [R.eL], R⟩, fun q => absurd q (by decide), fun q => absurd q (by decide)⟩))))
    · subst e
      refine s1_keeps ?_
      have key : ∀ b : Bool, kKeeps (h_kinds (x_live X) j) (h_held (x_live X) j) = b → wX5_of (fun b1 N => (if b then (1 : Int32) else 0) = b1 ∧ Rel X N) M (nI j) 8 := by
        intro b hb
        refine s5_isOne_t hk e5 hj (br_f (by decide) (s5_in_t (by decide) (by decide) (bn_f (by decide) ⟨fun q => absurd q (by decide), fun q => absurd q (by decide), fun q => absurd q (by decide), fun q => absurd q (by decide), fun _ => s5_isKeeping hj8 (R.ok5.held j) ?_, fun q => absurd q (by decide)⟩)))
        rw [← R.eL, hb]
        cases b
        · exact br_t rfl ⟨rfl, R⟩
        · exact br_f (by decide) ⟨rfl, R⟩
      cases hb : kKeeps (h_kinds (x_live X) j) (h_held (x_live X) j)
      · exact br_t rfl (key false hb)
      · exact br_f (by decide) (key true hb)
    · refine s4_finding_BEYOND (s5_isOne_t hk e5 hj (br_f (by decide) (s5_in_f (fun q => ?_) (bn_t rfl (s5_finds_BEYOND ⟨rfl, R.found 0⟩)))))
      obtain ⟨i, hi, rfl⟩ := in_of (n := 8) (by decide) q
      rw [nI_toInt (by omega)] at e
      omega
  · exact s4_isDuster_f hk e4 c (bn_t rfl (s4_finding_BEYOND (s5_isOne_f hk e5 c (br_t rfl (s5_finds_BEYOND ⟨rfl, R.found 0⟩)))))
end Ops1
