section Ops2
variable {X : XSt} {M : MSt}
theorem s5_set_f {post : Int32 → MSt → Prop} {k : Nat} {d w v : Int32} (hk : k ≤ 8) (e5 : h_dusters (rowH (m_row M)) = nI k) (hc : (∃ j, j < k ∧ d = nI j) → (w = 1 → ¬ (0 ≤ v ∧ v ≤ 1023)) ∧ (w = 2 → ¬ (0 ≤ v ∧ v ≤ 99)) ∧ (w = 3 → ¬ ∃ j, j < 8 ∧ v = nI j)) (h : post (-1000000001) (m_found_s M (upd (m_found M) 0 (m_found M 0 + 1)))) : wX5_set post M d w v := by
  by_cases c : ∃ j, j < k ∧ d = nI j
  · obtain ⟨q1, q2, q3⟩ := hc c
    obtain ⟨j, hj, rfl⟩ := c
    refine s5_isOne_t hk e5 hj (br_f (by decide) ⟨fun n => ?_, fun n => ?_, fun n => ⟨fun n3 => br_t rfl (s5_finds_BEYOND h), fun n3 => ?_⟩⟩)
    · exact s5_in_f (q1 n) ⟨Or.inl rfl, br_t rfl (s5_finds_BEYOND h)⟩
    · exact s5_in_f (q2 n) ⟨Or.inl rfl, br_t rfl (s5_finds_BEYOND h)⟩
    · exact s5_isRoom_f (q3 n3) (br_t rfl (br_t rfl (s5_finds_BEYOND h)))
  · exact s5_isOne_f hk e5 c (br_t rfl (s5_finds_BEYOND h))
theorem op_set (R : Rel X M) (d w v : Int32) : wX4_set (fun a T => wX5_set (fun b N => a = b ∧ Rel T N) M d w v) X d w v := by
  obtain ⟨k, hk, e4, e5⟩ := R.many
  have bad : ((∃ j, j < k ∧ d = nI j) → (w = 1 → ¬ (0 ≤ v ∧ v ≤ 1023)) ∧ (w = 2 → ¬ (0 ≤ v ∧ v ≤ 99)) ∧ (w = 3 → ¬ ∃ j, j < 8 ∧ v = nI j)) → wX4_finding (fun a T => wX5_set (fun b N => a = b ∧ Rel T N) M d w v) X (-1000000001) := fun hc => s4_finding_BEYOND (s5_set_f hk e5 hc ⟨rfl, R.found 0⟩)
  by_cases c : ∃ j, j < k ∧ d = nI j
  · obtain ⟨j, hj, rfl⟩ := c
    have hj8 : j < 8 := by omega
    refine s4_isDuster_t hk e4 hj (br_f (by decide) ?_)
    by_cases cw : 1 ≤ w ∧ w ≤ 3
    · have hw : w = 1 ∨ w = 2 ∨ w = 3 := by
        obtain ⟨i, hi, rfl⟩ := in_of (n := 3) (by decide) ⟨Int32.le_trans (by decide) cw.1, cw.2⟩
        have h1 := (nI_leI (a := 1) (b := i) (by decide) (by omega)).mp cw.1
        rcases (by omega : i = 1 ∨ i = 2 ∨ i = 3) with rfl | rfl | rfl
        · exact Or.inl rfl
        · exact Or.inr (Or.inl rfl)
        · exact Or.inr (Or.inr rfl)
      refine s4_in_t cw.1 cw.2 (bn_f (by decide) ?_)
      rcases hw with rfl | rfl | rfl
      · refine bn_t rfl ?_
        by_cases cv : 0 ≤ v ∧ v ≤ 1023
        · refine s4_in_t cv.1 cv.2 (bn_f (by decide) (bn_t rfl ?_))
          rw [c8 hj8]
          refine ⟨v8 hj8, fun y ey => ⟨v8 hj8, fun S2 e2 => ?_⟩⟩
          subst ey; subst e2
          refine s5_isOne_t hk e5 hj (br_f (by decide) ⟨fun _ => s5_in_t cv.1 cv.2 ⟨Or.inr rfl, br_f (by decide) ?_⟩, fun q => absurd q (by decide), fun q => absurd rfl q.1⟩)
          rw [ix_held]
          refine s5_bec_held hj8 (fun q eq => ⟨by rw [R.eL], R.live (by rw [eq, R.eL]) (R.ok.set_held hj8 (Rg.of (n := 1023) (by decide) cv.1 cv.2))⟩)
        · exact s4_in_f cv (bn_t rfl (bad (fun _ => ⟨fun _ => cv, fun q => absurd q (by decide), fun q => absurd q (by decide)⟩)))
      · refine bn_f (by decide) (bn_t rfl ?_)
        by_cases cv : 0 ≤ v ∧ v ≤ 99
        · refine s4_in_t cv.1 cv.2 (bn_f (by decide) (bn_f (by decide) (bn_t rfl ?_)))
          rw [c8 hj8]
          refine ⟨v8 hj8, fun y ey => ⟨v8 hj8, fun S2 e2 => ?_⟩⟩
          subst ey; subst e2
          refine s5_isOne_t hk e5 hj (br_f (by decide) ⟨fun q => absurd q (by decide), fun _ => s5_in_t cv.1 cv.2 ⟨Or.inr rfl, br_f (by decide) ?_⟩, fun q => absurd rfl q.2⟩)
          rw [ix_grimes]
          refine s5_bec_grimes hj8 (fun q eq => ⟨by rw [R.eL], R.live (by rw [eq, R.eL]) (R.ok.set_grimes hj8 (Rg.of (n := 99) (by decide) cv.1 cv.2))⟩)
        · exact s4_in_f cv (bn_t rfl (bad (fun _ => ⟨fun q => absurd q (by decide), fun _ => cv, fun q => absurd q (by decide)⟩)))
      · refine bn_f (by decide) (bn_f (by decide) ?_)
        by_cases cv : 0 ≤ v ∧ v ≤ 7
        · refine s4_in_t cv.1 cv.2 (bn_f (by decide) (bn_f (by decide) (bn_f (by decide) ?_)))
          rw [c8 hj8]
          refine ⟨v8 hj8, fun y ey => ⟨v8 hj8, fun S2 e2 => ?_⟩⟩
          subst ey; subst e2
          obtain ⟨i, hi, rfl⟩ := in_of (n := 7) (by decide) cv
          refine s5_isOne_t hk e5 hj (br_f (by decide) ⟨fun q => absurd q (by decide), fun q => absurd q (by decide), fun _ => bn_t rfl (s5_isRoom_t (by omega) (br_f (by decide) (br_f (by decide) ?_)))⟩)
          rw [ix_rounds]
          refine s5_bec_rounds hj8 (fun q eq => ⟨by rw [R.eL], R.live (by rw [eq, R.eL]) (R.ok.set_rounds hj8 ⟨i, hi, rfl⟩)⟩)
        · refine s4_in_f cv (bn_t rfl (bad (fun _ => ⟨fun q => absurd q (by decide), fun q => absurd q (by decide), fun _ q => cv ?_⟩)))
          obtain ⟨i, hi, rfl⟩ := q
          exact in_nI (n := 7) (by decide) (by omega)
    · refine s4_in_f cw (bn_t rfl (bad (fun _ => ⟨fun q => absurd ⟨?_, ?_⟩ cw, fun q => absurd ⟨?_, ?_⟩ cw, fun q => absurd ⟨?_, ?_⟩ cw⟩))) <;> rw [q] <;> decide
  · exact s4_isDuster_f hk e4 c (br_t rfl (bad (fun q => absurd q c)))
theorem op_turn (R : Rel X M) (d v : Int32) : wX4_turn (fun a T => wX5_turn (fun b N => a = b ∧ Rel T N) M d v) X d v := by
  obtain ⟨k, hk, e4, e5⟩ := R.many
  by_cases c : ∃ j, j < k ∧ d = nI j
  · obtain ⟨j, hj, rfl⟩ := c
    have hj8 : j < 8 := by omega
    refine s4_isDuster_t hk e4 hj (br_f (by decide) ?_)
    by_cases cv : ∃ j, j < 6 ∧ v = nI j
    · obtain ⟨i, hi, rfl⟩ := cv
      refine s4_isKind_t hi (bn_f (by decide) ?_)
      rw [c8 hj8]
      refine ⟨v8 hj8, fun y ey => ⟨v8 hj8, fun S2 e2 => ?_⟩⟩
      subst ey; subst e2
      refine s5_isOne_t hk e5 hj (br_f (by decide) (s5_isKind_t hi (br_f (by decide) ?_)))
      rw [show (19 + (4 * nI j) : Int32) = nI (19 + 4 * j) from (Int32.add_zero _).symm.trans (ix_kinds j)]
      exact s5_bec_kinds hj8 (fun q eq => ⟨by rw [R.eL], R.live (by rw [eq, R.eL]) (R.ok.set_kinds hj8 ⟨i, by omega, rfl⟩)⟩)
    · exact s4_isKind_f cv (bn_t rfl (s4_finding_BEYOND (s5_isOne_t hk e5 hj (br_f (by decide) (s5_isKind_f cv (br_t rfl (s5_finds_BEYOND ⟨rfl, R.found 0⟩)))))))
  · exact s4_isDuster_f hk e4 c (br_t rfl (s4_finding_BEYOND (s5_isOne_f hk e5 c (br_t rfl (s5_finds_BEYOND ⟨rfl, R.found 0⟩)))))
def isU (k a : Int32) : Bool := decide (k = a) || decide (a = 0) || (decide (k = 4) && decide (a = 1)) || (decide (k = 5) && decide (a = 2))
theorem s1_isUnder {post : Int32 → Prop} {k a : Int32} (h : post (if isU k a then 1 else 0)) : wX1_isUnder post k a := by
  have j21 : (isU k a = (decide (k = 5) && decide (a = 2))) → wX1_isUnder_21 post k a := by
    intro e
    rw [e] at h
    refine ⟨fun c => ?_, fun c => ⟨fun c2 => ?_, fun c2 => ?_⟩⟩
    · simpa [c] using h
    · simpa [c, c2] using h
    · simpa [c, c2] using h
  refine br_c (fun c => by simpa [isU, c] using h) (fun c => ⟨fun c0 => ⟨fun c4 => j21 (by simp [isU, c, c0, c4]), fun c4 => ⟨fun c1 => by simpa [isU, c4, c1] using h, fun c1 => j21 (by simp [isU, c, c0, c1])⟩⟩, fun c0 => by simpa [isU, c0] using h⟩)
theorem s5_as_63 {post : Int32 → MSt → Prop} {d k a : Nat} {own v : Int32} (hd : d < 8) (h1 : isU own v = true → post (h_grimes (rowH (m_row M)) d) M) (h0 : isU own v = false → wX5_finds post M (-1000000003)) (s : Int32) (hs : s = if isU own v then 1 else 0) : wX5_as_63 post M (nI d) s := by
  cases e : isU own v
  · rw [e] at hs
    exact br_t hs (h0 e)
  · rw [e] at hs
    exact br_f (by rw [hs]; decide) (s5_its_grimes hd (h1 e))
theorem op_as (R : Rel X M) (d v : Int32) : wX4_as (fun a T => wX5_as (fun b N => a = b ∧ Rel T N) M d v) X d v := by
  obtain ⟨k, hk, e4, e5⟩ := R.many
  by_cases c : ∃ j, j < k ∧ d = nI j
  · obtain ⟨j, hj, rfl⟩ := c
    have hj8 : j < 8 := by omega
    refine s4_isDuster_t hk e4 hj (br_f (by decide) ?_)
    by_cases cv : ∃ j, j < 6 ∧ v = nI j
    · obtain ⟨i, hi, rfl⟩ := cv
      refine s4_isKind_t hi (bn_f (by decide) ?_)
      rw [c8 hj8]
      refine ⟨v8 hj8, s1_isUnder ?_⟩
      have key : ∀ (post : Int32 → MSt → Prop), (isU (h_kinds (x_live X) j) (nI i) = true → post (h_grimes (rowH (m_row M)) j) M) → (isU (h_kinds (x_live X) j) (nI i) = false → wX5_finds post M (-1000000003)) → wX5_as post M (nI j) (nI i) := by
        intro post h1 h0
        have f63 := s5_as_63 (k := 0) (a := 0) (own := h_kinds (x_live X) j) (v := nI i) hj8 h1 h0
        refine s5_isOne_t hk e5 hj (br_f (by decide) (s5_isKind_t hi (bn_f (by decide) (s5_its_kinds hj8 ?_))))
        rw [← R.eL]
        generalize h_kinds (x_live X) j = o at f63 ⊢
        generalize nI i = v at f63 ⊢
        have j48 : (isU o v = (decide (o = 5) && decide (v = 2))) → wX5_as_48 post M (nI j) v o := by
          intro e
          refine ⟨fun c => f63 0 ?_, fun c => ⟨fun c2 => f63 0 ?_, fun c2 => f63 1 ?_⟩⟩
          · rw [e]; simp [c]
          · rw [e]; simp [c, c2]
          · rw [e]; simp [c, c2]
        refine br_c (fun c => f63 1 (by simp [isU, c])) (fun c => br_c (fun c2 => f63 1 (by simp [isU, c2])) (fun c2 => ⟨fun c3 => j48 (by simp [isU, c, c3, Ne.symm c2]), fun c3 => br_c (fun c4 => f63 1 (by simp [isU, c3, c4])) (fun c4 => j48 (by simp [isU, c, c4, Ne.symm c2]))⟩))
      cases hb : isU (h_kinds (x_live X) j) (nI i)
      · refine bn_t rfl (s4_finding_KIND (key _ (fun q => by rw [hb] at q; cases q) (fun _ => s5_finds_KIND ⟨rfl, R.found 2⟩)))
      · refine bn_f (by decide) ⟨v8 hj8, key _ (fun _ => ⟨by rw [R.eL], R⟩) (fun q => by rw [hb] at q; cases q)⟩
    · exact s4_isKind_f cv (bn_t rfl (s4_finding_BEYOND (s5_isOne_t hk e5 hj (br_f (by decide) (s5_isKind_f cv (bn_t rfl (s5_finds_BEYOND ⟨rfl, R.found 0⟩)))))))
  · exact s4_isDuster_f hk e4 c (br_t rfl (s4_finding_BEYOND (s5_isOne_f hk e5 c (br_t rfl (s5_finds_BEYOND ⟨rfl, R.found 0⟩)))))
theorem op_through (R : Rel X M) (d r : Int32) : wX4_through (fun a T => wX5_through (fun b N => a = b ∧ Rel T N) M d r) X d r := by
  obtain ⟨k, hk, e4, e5⟩ := R.many
  by_cases c : ∃ j, j < k ∧ d = nI j
  · obtain ⟨j, hj, rfl⟩ := c
    have hj8 : j < 8 := by omega
    refine s4_isDuster_t hk e4 hj (br_f (by decide) ?_)
    by_cases cv : ∃ j, j < 8 ∧ r = nI j
    · obtain ⟨i, hi, rfl⟩ := cv
      refine s4_isRoom_t hi (bn_f (by decide) (s0_goThrough R.ok hj8 hi (fun S2 e2 => ?_)))
      subst e2
      exact s5_isOne_t hk e5 hj (br_f (by decide) (s5_isRoom_t hi (br_f (by decide) (s5_goes R.ok5 hj8 hi (fun q eq => ⟨by rw [R.eL], R.live (by rw [eq, R.eL]) (R.ok.gt hj8 hi)⟩)))))
    · exact s4_isRoom_f cv (bn_t rfl (s4_finding_BEYOND (s5_isOne_t hk e5 hj (br_f (by decide) (s5_isRoom_f cv (br_t rfl (s5_finds_BEYOND ⟨rfl, R.found 0⟩)))))))
  · exact s4_isDuster_f hk e4 c (br_t rfl (s4_finding_BEYOND (s5_isOne_f hk e5 c (br_t rfl (s5_finds_BEYOND ⟨rfl, R.found 0⟩)))))
theorem op_wash (R : Rel X M) (d : Int32) : wX4_wash (fun a T => wX5_wash (fun b N => a = b ∧ Rel T N) M d) X d := by
  obtain ⟨k, hk, e4, e5⟩ := R.many
  by_cases c : ∃ j, j < k ∧ d = nI j
  · obtain ⟨j, hj, rfl⟩ := c
    have hj8 : j < 8 := by omega
    refine s4_isDuster_t hk e4 hj (bn_f (by decide) (s0_washOne hj8 (fun S2 e2 => ?_)))
    subst e2
    exact s5_isOne_t hk e5 hj (br_f (by decide) (s5_washes hj8 (fun q eq => ⟨by rw [R.eL], R.live (by rw [eq, R.eL]) (R.ok.wa hj8)⟩)))
  · exact s4_isDuster_f hk e4 c (bn_t rfl (s4_finding_BEYOND (s5_isOne_f hk e5 c (br_t rfl (s5_finds_BEYOND ⟨rfl, R.found 0⟩)))))
theorem op_shake (R : Rel X M) (d : Int32) : wX4_shake (fun a T => wX5_shake (fun b N => a = b ∧ Rel T N) M d) X d := by
  obtain ⟨k, hk, e4, e5⟩ := R.many
  by_cases c : ∃ j, j < k ∧ d = nI j
  · obtain ⟨j, hj, rfl⟩ := c
    have hj8 : j < 8 := by omega
    refine s4_isDuster_t hk e4 hj (bn_f (by decide) (s0_shakeOne (by decide) R.ok hj8 (fun S2 e2 => ?_)))
    subst e2
    exact s5_isOne_t hk e5 hj (br_f (by decide) (s5_shakes (by decide) R.ok5 hj8 (fun q eq => ⟨by rw [R.eL], R.live (by rw [eq, R.eL]) (R.ok.sh hj8)⟩)))
  · exact s4_isDuster_f hk e4 c (bn_t rfl (s4_finding_BEYOND (s5_isOne_f hk e5 c (br_t rfl (s5_finds_BEYOND ⟨rfl, R.found 0⟩)))))
theorem nDay_day : ∀ (n : Nat) {D : Nat} {S : HSt}, D + n < 2 ^ 20 → okS D S → ∀ E, Rg E (h_day S) → Rg (E + n) (h_day (nDay n S)) := by
  intro n
  induction n with
  | zero => intro D S _ _ E h; exact h
  | succ n ih =>
    intro D S hD ok E h
    have e : h_day (dayS S) = h_day S + 1 := by
      unfold dayS
      have e1 : h_day (nx (duS (thS S))) = h_day (duS (thS S)) + 1 := rfl
      rw [e1]
      have e2 : h_day (duS (thS S)) = h_day (thS S) := it_inv (f := duF) h_day (fun i a => rfl) 8 0 (thS S)
      have e3 : h_day (thS S) = h_day S := it_inv (f := thF) h_day (fun i a => rfl) _ 0 S
      rw [e2, e3]
    have h2 : Rg (E + 1) (h_day (dayS S)) := by
      rw [e]
      obtain ⟨j, hj, ej⟩ := h
      exact ⟨j + 1, by omega, by rw [ej]; exact nI_1 j⟩
    exact (ih (D := D + 1) (by omega) (ok.day1 (by omega)) (E + 1) h2).up (by omega)
theorem okS.dayE {D E n : Nat} {S : HSt} (hD : D + n < 2 ^ 20) (ok : okS D S) (hE : Rg E (h_day S)) : okS (E + n) (nDay n S) := by
  have k := ok.dayN n hD
  have h := nDay_day n hD ok E hE
  obtain ⟨h1, h2, h3, h4, h5, h6, h7, h8⟩ := k
  exact ⟨h1, h2, h3, h4, h5, h6, h, h8⟩
theorem op_days (R : Rel X M) (v : Int32) : wX4_days (fun a T => wX5_days (fun b N => a = b ∧ Rel T N) M v) X v := by
  by_cases c : 1 ≤ v ∧ v ≤ 60
  · obtain ⟨n, hn, rfl⟩ := in_of (n := 60) (by decide) ⟨Int32.le_trans (by decide) c.1, c.2⟩
    obtain ⟨a, ha, ea⟩ := R.ok.day
    have ea5 : m_row M 0 = nI a := by
      show h_day (rowH (m_row M)) = nI a
      rw [← R.eL]; exact ea
    refine s4_in_t c.1 c.2 (bn_f (by decide) ?_)
    rw [ea, show (9999 : Int32) - nI n = nI (9999 - n) from nI_sub (a := 9999) (b := n) (by omega)]
    by_cases ct : a + n ≤ 9999
    · refine br_t (nI_le (by omega) (by omega)) (s0_goDays (D := 9999) (by omega) R.ok (fun S5 e5 => ?_))
      subst e5
      refine s0_dsum ?_
      refine s5_in_t c.1 c.2 (bn_f (by decide) ⟨vp0, ?_⟩)
      rw [cl0, ea5, nI_add]
      refine br_t (nI_le (b := 9999) (by omega) (by decide)) (s5_passes (D := 9999) (by omega) R.ok5 (fun q eq => ?_))
      have ok2 : okS 9999 (nDay n (x_live X)) := (okS.dayE (D := 9999) (E := a) (by omega) R.ok ⟨a, Nat.le_refl _, ea⟩).up (by omega)
      have ok3 : okS 9999 (rowH (m_row (m_row_s M q))) := by
        show okS 9999 (rowH q)
        rw [eq, ← R.eL]
        exact ok2
      refine s5_dsum ok3 ⟨?_, R.live (by rw [eq, R.eL]) ok2⟩
      show dsum (nDay n (x_live X)) = dsum (rowH q)
      rw [eq, R.eL]
    · refine br_f (nI_ge (by omega) (by omega)) (s4_finding_STATE (s5_in_t c.1 c.2 (bn_f (by decide) ⟨vp0, ?_⟩)))
      rw [cl0, ea5, nI_add]
      exact br_f (nI_ge (a := 9999) (by omega) (by omega)) (s5_finds_STATE ⟨rfl, R.found 4⟩)
  · exact s4_in_f c (bn_t rfl (s4_finding_BEYOND (s5_in_f c (bn_t rfl (s5_finds_BEYOND ⟨rfl, R.found 0⟩)))))
end Ops2
