section Ops8
variable {X : XSt} {M : MSt}
set_option maxHeartbeats 400000 in
theorem s5_badSheet_t {post : Int32 → Prop} {k : Nat} (h4 : k < 4) (c : ¬ m_bitsOf M k = 0) (h : post 0) : wX5_badSheet post M (nI k) := by
  refine s5_isSheet_t h4 (bn_f (by decide) ?_)
  rw [c4 h4]
  exact ⟨v4 h4, bn_f c h⟩
set_option maxHeartbeats 400000 in
theorem s5_badSheet_m {post : Int32 → Prop} {k : Nat} (h4 : k < 4) (c : m_bitsOf M k = 0) (h : post (-1000000006)) : wX5_badSheet post M (nI k) := by
  refine s5_isSheet_t h4 (bn_f (by decide) ?_)
  rw [c4 h4]
  exact ⟨v4 h4, bn_t c h⟩
set_option maxHeartbeats 400000 in
theorem s5_badSheet_f {post : Int32 → Prop} {v : Int32} (c : ¬ ∃ j, j < 4 ∧ v = nI j) (h : post (-1000000001)) : wX5_badSheet post M v := s5_isSheet_f c (bn_t rfl h)
/-! numbers become memories -/
def okv (y : Int64) : Bool := decide (¬ lg_cmp y 0 < 0) && decide (¬ 0 < lg_cmp y 1023)
set_option maxHeartbeats 400000 in
theorem okv_Rg {y : Int64} (h : okv y = true) : Rg 1023 y.toInt32 := by
  unfold okv at h
  rw [Bool.and_eq_true, decide_eq_true_eq, decide_eq_true_eq] at h
  obtain ⟨h1, h2⟩ := h
  have a1 : (0 : Int64) ≤ y := (lg_cmp_ge y 0).mp (Int32.not_lt.mp h1)
  have a2 : y ≤ 1023 := (lg_cmp_le y 1023).mp (Int32.not_lt.mp h2)
  obtain ⟨k, hk, rfl⟩ := pk_lOf (Int64.not_lt.mpr a1)
  have a3 : k ≤ 1023 := (pk_lLE (b := 1023) hk (by decide)).mp a2
  exact ⟨k, a3, Int64.toInt32_ofNat⟩
def laF (g : Nat → Int64) (i : Nat) (p : HSt × Int32) : HSt × Int32 := if okv (g i) then (h_memories_s p.1 (upd (h_memories p.1) i (g i).toInt32), p.2 + 1) else p
set_option maxHeartbeats 400000 in
theorem laF_ok {D : Nat} {g : Nat → Int64} : ∀ (c i : Nat) (p : HSt × Int32), i + c ≤ 8 → okS D p.1 → okS D (itN (laF g) c i p).1 := by
  intro c
  induction c with
  | zero => intro i p _ h; exact h
  | succ c ih =>
    intro i p hi h
    refine ih (i + 1) _ (by omega) ?_
    unfold laF
    by_cases q : okv (g i) = true
    · rw [if_pos q]
      exact h.set_memories (by omega) (okv_Rg q)
    · rw [if_neg q]
      exact h
theorem itN_same {α : Type} {f f2 : Nat → α → α} {n : Nat} (h : ∀ j a, j < n → f j a = f2 j a) : ∀ (c i : Nat) (a : α), i + c ≤ n → itN f c i a = itN f2 c i a := by
  intro c
  induction c with
  | zero => intro i a _; rfl
  | succ c ih =>
    intro i a hi
    show itN f c (i + 1) (f i a) = itN f2 c (i + 1) (f2 i a)
    rw [h i a (by omega)]
    exact ih (i + 1) _ (by omega)
theorem laF_eq {g g2 : Nat → Int64} {j : Nat} (e : g j = g2 j) (p : HSt × Int32) : laF g j p = laF g2 j p := by
  unfold laF
  rw [e]
theorem laF_same {g g2 : Nat → Int64} (c i : Nat) (p : HSt × Int32) (hi : i + c ≤ 8) (h : ∀ j, j < 8 → g j = g2 j) : itN (laF g) c i p = itN (laF g2) c i p := itN_same (n := 8) (fun j a hj => laF_eq (h j hj) a) c i p hi
set_option maxHeartbeats 400000 in
theorem s4_lays_l {post : Int32 → XSt → Prop} {k z n : Nat} (hz : z ≤ 40) (ez : s_size (x_sh X k) = nI z) (hn : n ≤ 8) (hnz : n ≤ z) (hm : n = 8 ∨ n = z) : ∀ (c i : Nat) (H : HSt) (a : Int32), i + c = n → post (itN (laF (s_numbers (x_sh X k))) c i (H, a)).2 (x_live_s X (itN (laF (s_numbers (x_sh X k))) c i (H, a)).1) → wX4_lays_36 post k (c + 1) (x_live_s X H) a (nI i) := by
  intro c
  induction c with
  | zero =>
    intro i H a e h
    rw [wX4_lays_36]
    refine br_c (fun _ => h) (fun q => br_t ?_ h)
    show s_size (x_sh X k) ≤ nI i
    rw [ez]
    rcases hm with rfl | rfl
    · exact absurd (nI_le (a := 8) (b := i) (by omega) (by omega)) q
    · exact nI_le (by omega) (by omega)
  | succ c ih =>
    intro i H a e h
    have hi : i < 8 := by omega
    rw [wX4_lays_36]
    refine br_f (nI_ge (b := 8) (by omega) (by omega)) (br_f ?_ ⟨v40 (by omega), fun y ey => ?_⟩)
    · show ¬ s_size (x_sh X k) ≤ nI i
      rw [ez]
      exact nI_ge (by omega) (by omega)
    replace ey : y = s_numbers (x_sh X k) i := by
      rw [nI_clamp (by omega)] at ey
      exact ey
    rw [itN, laF] at h
    rw [← ey] at h
    rw [← nI_succ, nI_clamp (by omega)]
    refine br_c (fun q => ?_) (fun q => br_c (fun q2 => ?_) (fun q2 => ⟨v8 hi, fun S12 e12 => ?_⟩))
    · rw [if_neg (by simp [okv, q])] at h
      exact ih (i + 1) _ _ (by omega) h
    · rw [if_neg (by simp [okv, q2])] at h
      exact ih (i + 1) _ _ (by omega) h
    · subst e12
      rw [if_pos (by simp [okv, q, q2])] at h
      exact ih (i + 1) _ _ (by omega) h
set_option maxHeartbeats 400000 in
theorem s5_lays_l {post : Int32 → MSt → Prop} {k z n : Nat} (h4 : k < 4) (hz : z ≤ 40) (ez : m_sizeOf M k = nI z) (hn : n ≤ 8) (hnz : n ≤ z) (hm : n = 8 ∨ n = z) : ∀ (c i : Nat) (q : Nat → Int32) (a : Int32), i + c = n → (∀ q2, rowH q2 = (itN (laF (fun i => m_sheets M (40 * k + i))) c i (rowH q, a)).1 → post (itN (laF (fun i => m_sheets M (40 * k + i))) c i (rowH q, a)).2 (m_row_s M q2)) → wX5_lays_21 post (c + 1) (m_row_s M q) (nI k) a (nI i) := by
  intro c
  induction c with
  | zero =>
    intro i q a e h
    rw [wX5_lays_21, c4 h4, show m_sizeOf (m_row_s M q) k = nI z from ez]
    refine ⟨v4 h4, br_c (fun _ => h q rfl) (fun q0 => br_t ?_ (h q rfl))⟩
    rcases hm with rfl | rfl
    · exact nI_le (a := 8) (by omega) (by omega)
    · exact absurd (nI_le (by omega) (by omega)) q0
  | succ c ih =>
    intro i q a e h
    have hi : i < 8 := by omega
    rw [wX5_lays_21, c4 h4, show m_sizeOf (m_row_s M q) k = nI z from ez]
    refine ⟨v4 h4, br_f (nI_ge (by omega) (by omega)) (br_f (nI_ge (b := 8) (by omega) (by omega)) ?_)⟩
    rw [ix40, nI_clamp (n := 40 * k + i) (by omega)]
    refine ⟨vp_in_nI (by omega) (by decide), fun y ey => ?_⟩
    replace ey : y = m_sheets M (40 * k + i) := ey
    rw [itN, laF] at h
    rw [← ey] at h
    rw [← nI_succ]
    refine br_c (fun q0 => ?_) (fun q0 => br_c (fun q2 => ?_) (fun q2 => ?_))
    · rw [if_neg (by simp [okv, q0])] at h
      exact ih (i + 1) _ _ (by omega) h
    · rw [if_neg (by simp [okv, q2])] at h
      exact ih (i + 1) _ _ (by omega) h
    · rw [if_pos (by simp [okv, q0, q2])] at h
      refine s5_places_memories hi (fun q3 e3 => ?_)
      replace e3 : rowH q3 = h_memories_s (rowH q) (upd (h_memories (rowH q)) i y.toInt32) := e3
      refine ih (i + 1) q3 _ (by omega) ?_
      rw [e3]
      exact h
set_option maxHeartbeats 400000 in
theorem op_lays (R : Rel X M) (s : Int32) : wX4_lays (fun a T => wX5_lays (fun b N => a = b ∧ Rel T N) M s) X s := by
  by_cases c : ∃ j, j < 4 ∧ s = nI j
  · obtain ⟨k, h4, rfl⟩ := c
    obtain ⟨q1, q2, q3, ⟨z, hz, ez⟩⟩ := R.sh h4
    have ez4 : s_size (x_sh X k) = nI z := q2.trans ez
    refine s4_sheetAt_t h4 (sho_some h4 ?_)
    by_cases cm : s_bits (x_sh X k) = 0
    · exact s2_isMissing_t cm (br_f (by decide) (s4_finding_MISSING (s5_badSheet_m h4 (q1 ▸ cm) (br_f (by decide) (s5_finds_MISSING ⟨rfl, R.found 5⟩)))))
    · obtain ⟨n, n1, n2, n3⟩ : ∃ n, n ≤ 8 ∧ n ≤ z ∧ (n = 8 ∨ n = z) := by
        by_cases w : 8 ≤ z
        · exact ⟨8, by omega, w, Or.inl rfl⟩
        · exact ⟨z, by omega, by omega, Or.inr rfl⟩
      refine s2_isMissing_f cm (br_t rfl ⟨n + 1, s4_lays_l (X := X) hz ez4 n1 n2 n3 n 0 (x_live X) 0 (by omega) ?_⟩)
      refine s5_badSheet_t h4 (q1 ▸ cm) (br_t rfl ⟨n + 1, s5_lays_l (M := M) h4 hz ez n1 n2 n3 n 0 (m_row M) 0 (by omega) (fun q eq => ?_)⟩)
      have e : itN (laF (fun i => m_sheets M (40 * k + i))) n 0 (rowH (m_row M), 0) = itN (laF (s_numbers (x_sh X k))) n 0 (x_live X, 0) := by
        rw [← R.eL]
        exact (laF_same n 0 _ (by omega) (fun j hj => q3 j (by omega))).symm
      rw [e] at eq ⊢
      exact ⟨rfl, R.live eq.symm (laF_ok n 0 _ (by omega) R.ok)⟩
  · exact s4_sheetAt_f c (sho_none (s4_finding_BEYOND (s5_badSheet_f c (br_f (by decide) (s5_finds_BEYOND ⟨rfl, R.found 0⟩)))))
end Ops8
