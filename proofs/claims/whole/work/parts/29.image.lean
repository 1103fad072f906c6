section Ops5
variable {X : XSt} {M : MSt}
set_option maxHeartbeats 400000 in
theorem op_image (R : Rel X M) : wX4_image (fun a T => wX5_image (fun b N => a = b ∧ Rel T N) M) X := by
  refine s0_becomeAs R.zk R.ok.z (fun S2 e2 S3 e3 => ?_)
  subst e2; subst e3
  refine s5_save_image (fun t et S4 e4 => ?_)
  subst e4
  refine ⟨rfl, ?_⟩
  obtain ⟨⟨h0, h1⟩, ⟨z1, z2, z3⟩, -, h4, h5⟩ := R
  exact ⟨⟨h0, h1⟩, ⟨h1.z, z2, z3⟩, ⟨rfl, Or.inr ⟨rfl, h0.trans et.symm, h1⟩⟩, h4, h5⟩
set_option maxHeartbeats 400000 in
theorem op_undo (R : Rel X M) : wX4_undo (fun a T => wX5_undo (fun b N => a = b ∧ Rel T N) M) X := by
  have hk := R.2.2.1
  rcases hk.2 with k0 | ⟨k1, e1, ok1⟩
  · refine bn_t k0 (s4_finding_NONE (bn_t (hk.1 ▸ k0) (s5_finds_NONE ⟨rfl, R.found 3⟩)))
  · refine bn_f (by rw [k1]; decide) (s0_becomeAs R.ok.z R.zk (fun S3 e3 => ?_))
    subst e3
    refine bn_f (by rw [← hk.1, k1]; decide) (s5_back_image (fun q eq => ⟨vp2, ?_, ?_⟩))
    · show h_dusters (x_kept X) = h_dusters (rowH q)
      rw [eq, e1]
    · exact R.live (H := x_kept X) (e1.trans eq.symm) ok1
set_option maxHeartbeats 400000 in
theorem op_tear (R : Rel X M) : wX4_tear (fun a T => wX5_tear (fun b N => a = b ∧ Rel T N) M) X := by
  have hk := R.2.2.1
  have R2 : Rel (x_kp_s X 0) (m_isKept_s M 0) := by
    obtain ⟨h1, h2, -, h4⟩ := R
    exact ⟨h1, h2, ⟨rfl, Or.inl rfl⟩, h4⟩
  refine br_c (fun c S2 e2 => ?_) (fun c S2 e2 => ?_)
  · subst e2
    refine br_t (hk.1 ▸ c) (fun S3 e3 => ?_)
    subst e3
    exact ⟨rfl, R2⟩
  · subst e2
    refine br_f (hk.1 ▸ c) (fun S3 e3 => ?_)
    subst e3
    exact ⟨rfl, R2⟩
set_option maxHeartbeats 400000 in
theorem op_count (R : Rel X M) (w : Int32) : wX4_count (fun a T => wX5_count (fun b N => a = b ∧ Rel T N) M w) X w := by
  refine ⟨fun e => ?_, fun e => ?_, fun e => ?_, fun e => ?_, fun e => ?_⟩
  · subst e
    refine ⟨fun _ => ⟨vp2, ?_, R⟩, fun q => absurd q (by decide), fun q => absurd q (by decide), fun q => absurd q (by decide), fun q => absurd q (by decide)⟩
    rw [R.eL]; rfl
  · subst e
    exact ⟨fun q => absurd q (by decide), fun _ => ⟨R.2.2.2.2.1.2.1, R⟩, fun q => absurd q (by decide), fun q => absurd q (by decide), fun q => absurd q (by decide)⟩
  · subst e
    exact s0_msum ⟨fun q => absurd q (by decide), fun q => absurd q (by decide), fun _ => s5_msum R.ok5 ⟨by rw [R.eL], R⟩, fun q => absurd q (by decide), fun q => absurd q (by decide)⟩
  · subst e
    exact s0_gsum R.ok ⟨fun q => absurd q (by decide), fun q => absurd q (by decide), fun q => absurd q (by decide), fun _ => s5_gsum R.ok5 ⟨by rw [R.eL], R⟩, fun q => absurd q (by decide)⟩
  · refine s4_finding_BEYOND ⟨fun q => ?_, fun q => ?_, fun q => ?_, fun q => ?_, fun _ => s5_finds_BEYOND ⟨rfl, R.found 0⟩⟩ <;> (subst q; exact absurd e (by decide))
set_option maxHeartbeats 400000 in
theorem s4_status_l {post : Int32 → XSt → Prop} : ∀ (c i : Nat) (a : Int32), i + c = 7 → post (itN (fun i a => a + x_found X i) c i a) X → wX4_status_32 post (c + 1) X a (nI i) := by
  intro c
  induction c with
  | zero =>
    intro i a e h
    rw [wX4_status_32]
    exact br_t (nI_le (a := 7) (by omega) (by omega)) h
  | succ c ih =>
    intro i a e h
    rw [wX4_status_32, nI_clamp (by omega)]
    refine br_f (nI_ge (b := 7) (by omega) (by omega)) ⟨vp_in_nI (by omega) (by decide), fun y ey => ?_⟩
    rw [ey, ← nI_succ]
    exact ih (i + 1) _ (by omega) h
set_option maxHeartbeats 400000 in
theorem s5_status_l {post : Int32 → MSt → Prop} {w : Int32} : ∀ (c i : Nat) (a : Int32), i + c = 7 → ((0 ≤ w → vp_in w 7 ∧ post (m_found M w.toNatClampNeg) M) ∧ (¬ 0 ≤ w → post (itN (fun i a => a + m_found M i) c i a) M)) → wX5_status_21 post (c + 1) M w a (nI i) := by
  intro c
  induction c with
  | zero =>
    intro i a e h
    rw [wX5_status_21]
    refine br_t (nI_le (a := 7) (by omega) (by omega)) (br_c (fun c => br_t c (h.1 c)) (fun c => h.2 c))
  | succ c ih =>
    intro i a e h
    rw [wX5_status_21, nI_clamp (by omega)]
    refine br_f (nI_ge (b := 7) (by omega) (by omega)) ⟨vp_in_nI (by omega) (by decide), fun y ey => ?_⟩
    rw [ey, ← nI_succ]
    exact ih (i + 1) _ (by omega) h
set_option maxHeartbeats 400000 in
theorem op_status (R : Rel X M) (w : Int32) : wX4_status (fun a T => wX5_status (fun b N => a = b ∧ Rel T N) M w) X w := by
  have ef := R.2.2.2.1
  by_cases c : -1 ≤ w ∧ w ≤ 6
  · refine s4_in_t c.1 c.2 (bn_f (by decide) (br_c (fun q => ⟨8, s4_status_l 7 0 0 rfl ?_⟩) (fun q => ?_)))
    · refine s5_in_t c.1 c.2 (bn_f (by decide) ⟨8, s5_status_l 7 0 0 rfl ⟨fun z => absurd q (Int32.not_lt.mpr z), fun _ => ⟨?_, R⟩⟩⟩)
      rw [ef]
    · obtain ⟨j, hj, rfl⟩ := in_of (n := 6) (by decide) ⟨Int32.not_lt.mp q, c.2⟩
      have hv : vp_in (nI j) 7 := vp_in_nI (by omega) (by decide)
      refine ⟨hv, ?_⟩
      refine s5_in_t c.1 c.2 (bn_f (by decide) ⟨8, s5_status_l 7 0 0 rfl ⟨fun _ => ⟨hv, ?_, R⟩, fun z => absurd (Int32.not_lt.mp q) z⟩⟩)
      rw [ef]
  · exact s4_in_f c (bn_t rfl (s4_finding_BEYOND (s5_in_f c (bn_t rfl (s5_finds_BEYOND ⟨rfl, R.found 0⟩)))))
/-! the tape -/
set_option maxHeartbeats 400000 in
theorem Rel.tape (R : Rel X M) {T : TSt} {f : Nat → Int32} {v : Int32} (h1 : t_bytes T = f) (h2 : t_length T = v) (hv : Rg 120 v) (hf : ∀ i, Rg 255 (f i)) : Rel (x_tape_s X T) (m_tapeMany_s (m_tape_s M f) v) := by
  obtain ⟨r1, r2, r3, r4, -, r6⟩ := R
  exact ⟨r1, r2, r3, r4, ⟨h1, h2, hv, hf⟩, r6⟩
set_option maxHeartbeats 400000 in
theorem op_wipe (R : Rel X M) : wX4_wipe (fun a T => wX5_wipe (fun b N => a = b ∧ Rel T N) M) X := by
  intro y ey S2 e2
  subst ey; subst e2
  intro y ey S3 e3
  subst ey; subst e3
  have ht := R.2.2.2.2.1
  exact ⟨ht.2.1, R.tape (f := m_tape M) ht.1 rfl Rg0 ht.2.2.2⟩
def fdB (v : Int32) (c : Nat) : Int32 := (v >>> ((8 * nI c) &&& 31)) &&& 255
def fdT (v : Int32) : Nat → (Nat → Int32) → Nat → (Nat → Int32)
  | 0, f, _ => f
  | c + 1, f, l => fdT v c (upd f l (fdB v c)) (l + 1)
set_option maxHeartbeats 400000 in
theorem fdB_Rg (v : Int32) (c : Nat) : Rg 255 (fdB v c) := by
  obtain ⟨j, hj, e⟩ := pk_andE (v >>> ((8 * nI c) &&& 31)) (m := 255) 8 (by decide)
  exact ⟨j, by omega, e⟩
set_option maxHeartbeats 400000 in
theorem fdT_Rg (v : Int32) : ∀ (c : Nat) (f : Nat → Int32) (l : Nat), (∀ i, Rg 255 (f i)) → ∀ i, Rg 255 (fdT v c f l i) := by
  intro c
  induction c with
  | zero => intro f l h; exact h
  | succ c ih => intro f l h; exact ih _ _ (upd_all h (fdB_Rg v c))
def tpS (T : TSt) (f : Nat → Int32) (l : Nat) : TSt := t_length_s (t_bytes_s T f) (nI l)
set_option maxHeartbeats 400000 in
theorem s4_feed_l {post : Int32 → XSt → Prop} {v : Int32} : ∀ (c : Nat) (f : Nat → Int32) (l : Nat), l + c ≤ 120 → post (nI (l + c)) (x_tape_s X (tpS (x_tape X) (fdT v c f l) (l + c))) → wX4_feed_41 post (c + 1) (x_tape_s X (tpS (x_tape X) f l)) v (nI c - 1) := by
  intro c
  induction c with
  | zero =>
    intro f l hl h
    rw [wX4_feed_41]
    exact br_t (by decide) h
  | succ c ih =>
    intro f l hl h
    rw [wX4_feed_41, nI_pred]
    refine br_f (nI_pos (by omega)) ?_
    refine br_f (show ¬ (120 : Int32) ≤ nI l from nI_ge (b := 120) (by omega) (by decide)) ⟨show vp_in (nI l) 120 from vp_in_nI (by omega) (by decide), fun S2 e2 S3 e3 S7 e7 => ?_⟩
    subst e2; subst e3; subst e7
    rw [show nI c + (-1) = nI c - 1 from (Int32.sub_eq_add_neg (a := nI c) (b := 1)).symm]
    have e : x_tape_s (x_tape_s X (tpS (x_tape X) f l)) (t_length_s (t_bytes_s (x_tape (x_tape_s X (tpS (x_tape X) f l))) (upd (t_bytes (x_tape (x_tape_s X (tpS (x_tape X) f l)))) (Int32.toNatClampNeg (t_length (x_tape (x_tape_s X (tpS (x_tape X) f l))))) ((v >>> ((8 * nI c) &&& 31)) &&& 255))) (t_length (t_bytes_s (x_tape (x_tape_s X (tpS (x_tape X) f l))) (upd (t_bytes (x_tape (x_tape_s X (tpS (x_tape X) f l)))) (Int32.toNatClampNeg (t_length (x_tape (x_tape_s X (tpS (x_tape X) f l))))) ((v >>> ((8 * nI c) &&& 31)) &&& 255))) + 1)) = x_tape_s X (tpS (x_tape X) (upd f l (fdB v c)) (l + 1)) := by
      show x_tape_s X (t_length_s (t_bytes_s (x_tape X) (upd f (nI l).toNatClampNeg (fdB v c))) (nI l + 1)) = _
      rw [nI_clamp (by omega), nI_1]
      rfl
    rw [e]
    refine ih _ _ (by omega) ?_
    rw [show l + 1 + c = l + (c + 1) from by omega]
    exact h
set_option maxHeartbeats 400000 in
theorem s5_feed_l {post : Int32 → MSt → Prop} {v : Int32} : ∀ (c : Nat) (f : Nat → Int32) (l : Nat), l + c ≤ 120 → post (nI (l + c)) (m_tapeMany_s (m_tape_s M (fdT v c f l)) (nI (l + c))) → wX5_feed_38 post (c + 1) (m_tapeMany_s (m_tape_s M f) (nI l)) v (nI c - 1) := by
  intro c
  induction c with
  | zero =>
    intro f l hl h
    rw [wX5_feed_38]
    exact br_t (by decide) h
  | succ c ih =>
    intro f l hl h
    rw [wX5_feed_38, nI_pred]
    refine br_f (nI_pos (by omega)) ⟨show vp_in (nI l) 120 from vp_in_nI (by omega) (by decide), fun S2 e2 S3 e3 => ?_⟩
    subst e2; subst e3
    rw [show nI c + (-1) = nI c - 1 from (Int32.sub_eq_add_neg (a := nI c) (b := 1)).symm]
    have e : m_tapeMany_s (m_tape_s (m_tapeMany_s (m_tape_s M f) (nI l)) (upd (m_tape (m_tapeMany_s (m_tape_s M f) (nI l))) (Int32.toNatClampNeg (m_tapeMany (m_tapeMany_s (m_tape_s M f) (nI l)))) ((v >>> ((8 * nI c) &&& 31)) &&& 255))) (m_tapeMany (m_tape_s (m_tapeMany_s (m_tape_s M f) (nI l)) (upd (m_tape (m_tapeMany_s (m_tape_s M f) (nI l))) (Int32.toNatClampNeg (m_tapeMany (m_tapeMany_s (m_tape_s M f) (nI l)))) ((v >>> ((8 * nI c) &&& 31)) &&& 255))) + 1) = m_tapeMany_s (m_tape_s M (upd f l (fdB v c))) (nI (l + 1)) := by
      show m_tapeMany_s (m_tape_s M (upd f (nI l).toNatClampNeg (fdB v c))) (nI l + 1) = _
      rw [nI_clamp (by omega), nI_1]
    rw [e]
    refine ih _ _ (by omega) ?_
    rw [show l + 1 + c = l + (c + 1) from by omega]
    exact h
set_option maxHeartbeats 400000 in
theorem op_feed (R : Rel X M) (v n : Int32) : wX4_feed (fun a T => wX5_feed (fun b N => a = b ∧ Rel T N) M v n) X v n := by
  obtain ⟨t1, t2, ⟨l, hl, el⟩, t4⟩ := R.2.2.2.2.1
  have el4 : t_length (x_tape X) = nI l := t2.trans el
  by_cases c : 1 ≤ n ∧ n ≤ 4
  · obtain ⟨m, hm, rfl⟩ := in_of (n := 4) (by decide) ⟨Int32.le_trans (by decide) c.1, c.2⟩
    refine s4_in_t c.1 c.2 (bn_f (by decide) ?_)
    rw [el4, show (120 : Int32) - nI m = nI (120 - m) from nI_sub (a := 120) (b := m) (by omega)]
    by_cases ct : l + m ≤ 120
    · refine br_t (nI_le (by omega) (by omega)) (fun y ey => ⟨m + 1, ?_⟩)
      subst ey
      have e4 : X = x_tape_s X (tpS (x_tape X) (t_bytes (x_tape X)) l) := by
        unfold tpS
        rw [← el4]
        rfl
      rw [e4]
      refine s4_feed_l m (t_bytes (x_tape X)) l ct ?_
      refine s5_in_t c.1 c.2 (bn_f (by decide) ?_)
      rw [el, nI_add]
      refine br_t (nI_le (b := 120) (by omega) (by decide)) (fun y ey => ⟨m + 1, ?_⟩)
      subst ey
      have e5 : M = m_tapeMany_s (m_tape_s M (m_tape M)) (nI l) := by
        rw [← el]
        rfl
      rw [e5]
      refine s5_feed_l m (m_tape M) l ct ⟨rfl, ?_⟩
      refine R.tape ?_ rfl ⟨l + m, ct, rfl⟩ (fdT_Rg v m _ l t4)
      show fdT v m (t_bytes (x_tape X)) l = fdT v m (m_tape M) l
      rw [t1]
    · refine br_f (nI_ge (by omega) (by omega)) (s4_finding_FULL (s5_in_t c.1 c.2 (bn_f (by decide) ?_)))
      rw [el, nI_add]
      exact br_f (nI_ge (a := 120) (by omega) (by omega)) (s5_finds_FULL ⟨rfl, R.found 1⟩)
  · exact s4_in_f c (bn_t rfl (s4_finding_BEYOND (s5_in_f c (bn_t rfl (s5_finds_BEYOND ⟨rfl, R.found 0⟩)))))
end Ops5
