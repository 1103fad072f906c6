/-! a house told in a text -/
def hsF (f : Nat → Int32) (n : Nat) : Nat → Nat → HSt → Nat → Nat × Option (Nat × HSt)
  | 0, p, _, _ => (p, none)
  | c + 1, p, H, i => obnd (itF f n p H) (fun P H1 => if tK f n P = 0 then (P, some (i + 1, H1)) else if tK f n P = 3 then hsF f n c (tE f n P) H1 (i + 1) else (P, none))
section HouseS
variable {f : Nat → Int32} {n : Nat}
set_option maxHeartbeats 400000 in
theorem itF_ok {p D P : Nat} {H H' : HSt} (ok : okS D H) (h : itF f n p H = (P, some H')) : okS D H' := by
  unfold itF at h
  obtain ⟨d, hd, ed⟩ := ok.many
  have adG_ok : ∀ (p2 : Nat) (k s : Int32), d < 8 → Rg 5 k → Rg 1023 s → adG f n p2 H k s = (P, some H') → okS D H' := by
    intro p2 k s hd8 hk hs h
    unfold adG at h
    split at h
    · split at h
      · rename_i z
        cases h
        exact ok.ad hd8 ed hk hs ⟨_, by have := (num_iff.mp z).2; omega, rfl⟩
      · cases h
    · cases h
      exact ok.ad hd8 ed hk hs Rg0
  have rmC_ok : ∀ (p2 r : Nat) (H2 : HSt), r < 8 → okS D H2 → rmC f n p2 H2 r = (P, some H') → okS D H' := by
    intro p2 r H2 hr ok2 h
    unfold rmC at h
    split at h
    · cases em : mems f n (tE f n p2) with
      | mk Q o =>
        rw [em] at h
        cases o with
        | none => cases h
        | some s =>
          cases h
          exact ok2.set_memories hr (mems_Rg (p := tE f n p2) (by rw [em]))
    · cases h
      exact ok2
  split at h
  · split at h
    · unfold rmF at h
      split at h
      · rename_i z
        have hr := (num_iff.mp z).2
        split at h
        · split at h
          · rename_i z2
            exact rmC_ok _ _ _ hr (ok.set_dust hr ⟨_, by have := (num_iff.mp z2).2; omega, rfl⟩) h
          · cases h
        · exact rmC_ok _ _ _ hr ok h
      · cases h
    · split at h
      · unfold faF at h
        split at h
        · rename_i z
          cases h
          exact ok.set_fall ⟨_, by have := (num_iff.mp z).2; omega, rfl⟩
        · cases h
      · split at h
        · unfold wsF at h
          rw [ed, nI_clamp (by omega)] at h
          split at h
          · rename_i z
            cases h
            exact ok.wa (by have := (num_iff.mp z).2; omega)
          · cases h
        · split at h
          · rename_i k5
            unfold dsF at h
            rw [ed, nI_clamp (by omega)] at h
            split at h
            · cases h
            · split at h
              · cases em : mems f n (tE f n (tE f n p)) with
                | mk Q o =>
                  rw [em] at h
                  cases o with
                  | none => cases h
                  | some s => exact adG_ok Q _ s (by omega) ⟨_, k5, rfl⟩ (mems_Rg (p := tE f n (tE f n p)) (by rw [em])) h
              · exact adG_ok _ _ 0 (by omega) ⟨_, k5, rfl⟩ Rg0 h
          · cases h
  · cases h
set_option maxHeartbeats 400000 in
theorem itF_le {p : Nat} {H : HSt} (hp : p ≤ n) : p ≤ (itF f n p H).1 ∧ (itF f n p H).1 ≤ n := by
  have e1 := tE_up (f := f) hp
  have e2 := tE_up (f := f) e1.2
  have e3 := tE_up (f := f) e2.2
  have e4 := tE_up (f := f) e3.2
  have adG_le : ∀ (p2 : Nat) (k s : Int32), p2 ≤ n → p2 ≤ (adG f n p2 H k s).1 ∧ (adG f n p2 H k s).1 ≤ n := by
    intro p2 k s h2
    have a1 := tE_up (f := f) h2
    have a2 := tE_up (f := f) a1.2
    unfold adG
    split
    · split
      · exact ⟨by show p2 ≤ tE f n (tE f n p2); omega, a2.2⟩
      · exact a1
    · exact ⟨Nat.le_refl _, h2⟩
  have rmC_le : ∀ (p2 r : Nat) (H2 : HSt), p2 ≤ n → p2 ≤ (rmC f n p2 H2 r).1 ∧ (rmC f n p2 H2 r).1 ≤ n := by
    intro p2 r H2 h2
    have a1 := tE_up (f := f) h2
    have a2 := mems_le (f := f) a1.2
    unfold rmC
    split
    · cases em : mems f n (tE f n p2) with
      | mk Q o =>
        rw [em] at a2
        cases o with
        | none => exact ⟨by show p2 ≤ Q; have := a2.1; omega, a2.2⟩
        | some s => exact ⟨by show p2 ≤ Q; have := a2.1; omega, a2.2⟩
    · exact ⟨Nat.le_refl _, h2⟩
  unfold itF
  split
  · split
    · unfold rmF
      split
      · split
        · split
          · have := rmC_le (tE f n (tE f n (tE f n (tE f n p)))) (tV f n (tE f n p)) (h_dust_s H (upd (h_dust H) (tV f n (tE f n p)) (nI (tV f n (tE f n (tE f n (tE f n p))))))) e4.2
            exact ⟨by omega, this.2⟩
          · exact ⟨by show p ≤ tE f n (tE f n (tE f n p)); omega, e3.2⟩
        · have := rmC_le (tE f n (tE f n p)) (tV f n (tE f n p)) H e2.2
          exact ⟨by omega, this.2⟩
      · exact e1
    · split
      · unfold faF
        split
        · exact ⟨by show p ≤ tE f n (tE f n p); omega, e2.2⟩
        · exact e1
      · split
        · unfold wsF
          split
          · exact ⟨by show p ≤ tE f n (tE f n p); omega, e2.2⟩
          · exact e1
        · split
          · unfold dsF
            split
            · exact ⟨Nat.le_refl _, hp⟩
            · split
              · have a2 := mems_le (f := f) e2.2
                cases em : mems f n (tE f n (tE f n p)) with
                | mk Q o =>
                  rw [em] at a2
                  cases o with
                  | none => exact ⟨by show p ≤ Q; have := a2.1; omega, a2.2⟩
                  | some s =>
                    have := adG_le Q (nI (tV f n p)) s a2.2
                    have h1 := a2.1
                    exact ⟨by show p ≤ (adG f n Q H (nI (tV f n p)) s).1; omega, this.2⟩
              · have := adG_le (tE f n p) (nI (tV f n p)) 0 e1.2
                exact ⟨by omega, this.2⟩
          · exact ⟨Nat.le_refl _, hp⟩
  · exact ⟨Nat.le_refl _, hp⟩
set_option maxHeartbeats 400000 in
theorem tok0 {T : TSt} {p j : Nat} (hT : TA f n T p) (hj : j ≤ 4) : t_token T = nI j ↔ tK f n p = j := by
  have hle := tK_le (f := f) (n := n) (p := p)
  rw [hT.2.2.2.2.1]
  exact nI_eq (by omega) (by omega)
set_option maxHeartbeats 400000 in
theorem s3_hs {post : Int32 → TSt × HSt → Prop} (hX : Tx f n) {D P : Nat} {o : Option (Nat × HSt)} (hs : ∀ T' k H', o = some (k, H') → TA f n T' P → okS D H' → k ≤ 121 → post (nI k) (T', H')) (hn : o = none → ∀ T' H', TA f n T' P → zS H' → P ≤ n → post ((-1) - nI (tS f n P)) (T', H')) : ∀ (c p i : Nat) (T : TSt) (H : HSt), n < p + c → p ≤ n → i ≤ p → TA f n T p → okS D H → (P, o) = hsF f n c p H i → wX3_tellHouse_11 post (c + 1) (T, H) (nI i) := by
  have hX1 := hX.1
  intro c
  induction c with
  | zero => intro p i T H h1 h2; omega
  | succ c ih =>
    intro p i T H h1 hp hi hT ok e
    rw [wX3_tellHouse_11]
    rw [hsF] at e
    have hle := itF_le (f := f) (n := n) (H := H) hp
    refine br_f (nI_nlt (b := i) (a := 120) (by omega) (by omega)) (s3_itF hX hp hT ok (fun T' H' hT' h2 => ?_) (fun T' H' hT' hz h2 => ?_))
    · cases ei : itF f n p H with
      | mk Q oo =>
        rw [ei] at e hle hT' h2
        replace h2 : oo = some H' := h2
        subst h2
        have ok' := itF_ok ok ei
        replace e : (P, o) = if tK f n Q = 0 then (Q, some (i + 1, H')) else if tK f n Q = 3 then hsF f n c (tE f n Q) H' (i + 1) else (Q, none) := e
        have hQ : Q ≤ n := hle.2
        have hpQ : p ≤ Q := hle.1
        refine br_f (by decide) ⟨fun t0 => ⟨fun t3 => ?_, fun t3 => ?_⟩, fun t0 => ?_⟩
        · have k0 : tK f n Q ≠ 0 := fun z => t0 ((tok0 (j := 0) hT' (by omega)).mpr z)
          have k3 : tK f n Q = 3 := (tok0 (j := 3) hT' (by omega)).mp t3
          rw [if_neg k0, if_pos k3] at e
          refine s3_stp hX hQ hT' (fun T2 hT2 _ S11 e11 => ?_)
          subst e11
          have a1 := tE_lt (f := f) hQ k0
          have a2 := tS_le (f := f) hQ
          rw [← nI_succ]
          exact ih (tE f n Q) (i + 1) T2 H' (by omega) (tE_up hQ).2 (by omega) hT2 ok' e
        · have k0 : tK f n Q ≠ 0 := fun z => t0 ((tok0 (j := 0) hT' (by omega)).mpr z)
          have k3 : tK f n Q ≠ 3 := fun z => t3 ((tok0 (j := 3) hT' (by omega)).mpr z)
          rw [if_neg k0, if_neg k3] at e
          cases e
          show post ((-1) - t_start T') (T', H')
          rw [hT'.2.2.1]
          exact hn rfl T' H' hT' ok'.z hQ
        · have k0 : tK f n Q = 0 := (tok0 (j := 0) hT' (by omega)).mp t0
          rw [if_pos k0] at e
          cases e
          rw [← nI_succ]
          exact hs T' (i + 1) H' rfl hT' ok' (by omega)
    · cases ei : itF f n p H with
      | mk Q oo =>
        rw [ei] at e hle hT' h2
        replace h2 : oo = none := h2
        subst h2
        cases e
        refine br_t rfl ?_
        show post ((-1) - t_start T') (T', H')
        rw [hT'.2.2.1]
        exact hn rfl T' H' hT' hz hle.2
set_option maxHeartbeats 400000 in
theorem MA.val59 {N M' : MSt} {p : Nat} {g : Int32} (h : MA f n N M' p g) : (tK f n p = 3 → m_value M' = 59) ∧ (tK f n p = 4 → ¬ m_value M' = 59) := by
  obtain ⟨a, b, c, w, v, rfl, -, -, -, -, -, e6, e7⟩ := h
  exact ⟨e6, e7⟩
set_option maxHeartbeats 400000 in
theorem s5_hs {post : Int32 → MSt → Prop} {N : MSt} (hN : Tp f n N) {D P : Nat} {o : Option (Nat × HSt)} (hs : ∀ k H' M2 q, o = some (k, H') → rowH q = H' → MA f n (m_row_s N q) M2 P 1 → wX5_house_91 post M2 (nI k) 1) (hn : o = none → ∀ k M2 q g, MA f n (m_row_s N q) M2 P g → wX5_house_91 post M2 k 0) : ∀ (c p i : Nat) (q : Nat → Int32) (a b : Int32) (w : Int64) (v : Int32) (H : HSt), n < p + c → p ≤ n → rowH q = H → okS D H → i ≤ p → (P, o) = hsF f n c p H i → wX5_house_23 post (c + 2) (mP (m_row_s N q) a b (nI p) w v 1) (nI i) 1 := by
  have hn1 := hN.1
  intro c
  induction c with
  | zero => intro p i q a b w v H h1 h2; omega
  | succ c ih =>
    intro p i q a b w v H h1 hp eq ok hi e
    rw [wX5_house_23]
    rw [hsF] at e
    have hle := itF_le (f := f) (n := n) (H := H) hp
    have hNq : Tp f n (m_row_s N q) := hN
    refine br_f (by decide) (s5_advance (f := f) (n := n) (N := m_row_s N q) hN.1 hN.2.1 hN.2.2.1 hp hN.2.2.2 (fun M1 hM1 => ?_))
    have ok2 : okS D (rowH (m_row (m_row_s N q))) := by show okS D (rowH q); rw [eq]; exact ok
    have eH : rowH (m_row (m_row_s N q)) = H := eq
    refine s5_itF hNq hp hM1 ok2 (fun H' M2 q2 h2 eq2 hM2 => ?_) (fun h2 M2 q2 g hM2 hg => ?_)
    · rw [eH] at h2 hM2
      replace hM2 : MA f n (m_row_s N q2) M2 (itF f n p H).1 1 := hM2
      cases ei : itF f n p H with
      | mk Q oo =>
        rw [ei] at e hle hM2 h2
        replace h2 : oo = some H' := h2
        subst h2
        have ok' := itF_ok ok ei
        replace e : (P, o) = if tK f n Q = 0 then (Q, some (i + 1, H')) else if tK f n Q = 3 then hsF f n c (tE f n Q) H' (i + 1) else (Q, none) := e
        have hQ : Q ≤ n := hle.2
        have hpQ : p ≤ Q := hle.1
        have hkl := tK_le (f := f) (n := n) (p := Q)
        obtain ⟨s1, s2, s0, s3⟩ := srt_eq hkl
        have es := hM2.sortIs
        replace hM2 : MA f n (m_row_s N q2) M2 Q 1 := hM2
        have stop : ∀ x : Int32, (tK f n Q = 0 → x = nI (i + 1)) → tK f n Q ≠ 3 → wX5_house_23 post (c + 2) M2 x 0 := by
          intro x hx k3
          rw [wX5_house_23, hM2.isGood, es]
          refine br_t rfl (br_f (by decide) ⟨fun z => ?_, fun z => ?_⟩)
          · have k0 : tK f n Q ≠ 0 := fun z0 => z (by rw [s0.mpr z0]; rfl)
            rw [if_neg k0, if_neg k3] at e
            cases e
            exact hn rfl _ M2 q2 1 hM2
          · have k0 : tK f n Q = 0 := s0.mp ((nI_eq (b := 0) (by omega) (by decide)).mp z)
            rw [if_pos k0] at e
            cases e
            rw [hx k0]
            exact hs (i + 1) H' M2 q2 rfl eq2 hM2
        refine br_f (by rw [hM2.isGood]; decide) ⟨fun z => ?_, fun z => ⟨fun z9 => ?_, fun z9 => ?_⟩⟩
        · refine stop _ (fun _ => nI_1 i) (fun k3 => z ?_)
          rw [es, k3]
          rfl
        · refine stop _ (fun _ => nI_1 i) (fun k3 => z9 (hM2.val59.1 k3))
        · have k3 : tK f n Q = 3 := by
            by_cases k4 : tK f n Q = 4
            · exact absurd z9 (hM2.val59.2 k4)
            · have : srt (tK f n Q) = 3 := (nI_eq (b := 3) (by omega) (by decide)).mp (es ▸ z)
              unfold srt at this
              rw [if_neg k4] at this
              exact this
          rw [if_neg (by omega), if_pos k3] at e
          have a1 := tE_lt (f := f) hQ (by omega)
          have a2 := tS_le (f := f) hQ
          obtain ⟨a', b', c', w', v', rfl, e1, e2, -⟩ := id hM2
          subst e2
          rw [← nI_succ]
          exact ih (tE f n Q) (i + 1) q2 a' b' w' v' H' (by omega) (tE_up hQ).2 eq2 ok' (by omega) e
    · rw [eH] at h2 hM2 hg
      replace hM2 : MA f n (m_row_s N q2) M2 (itF f n p H).1 g := hM2
      cases ei : itF f n p H with
      | mk Q oo =>
        rw [ei] at e hM2 h2 hg
        replace h2 : oo = none := h2
        subst h2
        cases e
        have hfin : ∀ x : Int32, wX5_house_91 post M2 x 0 := fun x => hn rfl x M2 q2 g hM2
        have hkl := tK_le (f := f) (n := n) (p := P)
        have es : m_sort M2 = nI (srt (tK f n P)) := hM2.sortIs
        rcases hg with hg | ⟨hg, k2⟩
        · subst hg
          refine br_t hM2.isGood ?_
          rw [wX5_house_23, hM2.isGood]
          exact br_t rfl (br_t rfl (hfin _))
        · subst hg
          replace k2 : tK f n P = 2 := k2
          have e2 : m_sort M2 = 2 := by rw [es, k2]; rfl
          refine br_f (by rw [hM2.isGood]; decide) ⟨fun _ => ?_, fun z => absurd z (by rw [e2]; decide)⟩
          rw [wX5_house_23, hM2.isGood, e2]
          exact br_t rfl (br_f (by decide) ⟨fun _ => hfin _, fun z => absurd z (by decide)⟩)
end HouseS
section OpHouse
variable {X : XSt} {M : MSt}
set_option maxHeartbeats 400000 in
theorem neg_fin : ∀ s, s < 121 → ((-1 : Int32) - nI s < 0) := by decide +kernel
set_option maxHeartbeats 400000 in
theorem Rel.text (R : Rel X M) {H A : HSt} {T : TSt} (t q : Nat → Int32) (a b c : Int32) (w : Int64) (v g : Int32) (eH : H = rowH q) (ok : okS 9999 H) (zA : zS A) (hT : t_bytes T = m_tape M) (hl : t_length T = 0) : Rel (x_tape_s (x_ahead_s (x_live_s X H) A) T) (m_tapeMany_s (mP (m_row_s (m_before_s M t) q) a b c w v g) 0) := by
  obtain ⟨-, ⟨z1, -, z3⟩, k, fd, ⟨-, -, -, t4⟩, sh⟩ := R
  exact ⟨⟨eH, ok⟩, ⟨z1, zA, z3⟩, k, fd, ⟨hT, hl, Rg0, t4⟩, sh⟩
theorem xh0 (X : XSt) (A : HSt) (T : TSt) : x_ahead_s (x_tape_s (x_live_s (x_ahead_s X (x_live X)) (x_live X)) T) A = x_tape_s (x_ahead_s X A) T := rfl
theorem xh1 (X : XSt) (A B C : HSt) (T U : TSt) : x_tape_s (x_ahead_s (x_live_s (x_tape_s (x_ahead_s X A) T) B) C) U = x_tape_s (x_ahead_s (x_live_s X B) C) U := rfl
theorem xh2 (X : XSt) (A : HSt) (T U : TSt) : x_tape_s (x_tape_s (x_ahead_s X A) T) U = x_tape_s (x_ahead_s X A) U := rfl
theorem mh0 (M : MSt) (t : Nat → Int32) : m_good_s (m_tokenEnds_s (m_before_s M t) 0) 1 = mP (m_row_s (m_before_s M t) (m_row M)) (m_sort M) (m_begins M) (nI 0) (m_word M) (m_value M) 1 := rfl
theorem mh1 (N : MSt) (a b c : Int32) (w : Int64) (v g g2 : Int32) : m_tapeMany_s (m_good_s (mP N a b c w v g) g2) 0 = m_tapeMany_s (mP N a b c w v g2) 0 := rfl
theorem mh2 (N : MSt) (q q2 : Nat → Int32) (a b c : Int32) (w : Int64) (v g : Int32) : m_row_s (m_tapeMany_s (mP (m_row_s N q) a b c w v g) 0) q2 = m_tapeMany_s (mP (m_row_s N q2) a b c w v g) 0 := rfl
set_option maxHeartbeats 400000 in
theorem s4_house {post : Int32 → XSt → Prop} (R : Rel X M) {n P : Nat} {o : Option (Nat × HSt)} (hn : n ≤ 120) (en : t_length (x_tape X) = nI n) (eh : hsF (m_tape M) n (n + 1) 0 (x_live X) 0 = (P, o)) (hs : ∀ k H' T, o = some (k, H') → okS 9999 H' → t_bytes T = m_tape M → t_length T = 0 → post (nI k) (x_tape_s (x_ahead_s (x_live_s X H') H') T)) (h0 : o = none → ∀ A T, zS A → t_bytes T = m_tape M → t_length T = 0 → post ((-1) - nI (tS (m_tape M) n P)) (x_tape_s (x_ahead_s X A) T)) : wX4_house post X := by
  obtain ⟨t1, t2, -, t4⟩ := R.2.2.2.2.1
  have hX : Tx (m_tape M) n := ⟨hn, t4⟩
  refine s4_become R R.za (fun S2 e2 => ?_)
  subst e2
  intro S1 e1
  subst e1
  have hT0 : t_bytes (t_end_s (x_tape X) 0) = m_tape M := t1
  have hL0 : t_length (t_end_s (x_tape X) 0) = nI n := en
  refine s3_step (f := m_tape M) (n := n) (p := 0) (T := t_end_s (x_tape X) 0) hn (Nat.zero_le n) hT0 hL0 rfl t4 (fun T' hT' _ S3 e3 => ?_)
  subst e3
  refine ⟨n + 2, s3_hs (f := m_tape M) (n := n) (D := 9999) (P := P) (o := o) hX (fun T2 k H' ho hT2 okH hk => ?_) (fun ho T2 H' hT2 hz hPn => ?_) (n + 1) 0 0 T' (x_live X) (by omega) (Nat.zero_le n) (Nat.le_refl 0) hT' R.ok eh.symm⟩
  · intro S5 e5
    replace e5 : S5 = x_tape_s (x_ahead_s X H') T2 := e5.trans (xh0 X H' T2)
    subst e5
    refine br_f (nI_pos (by omega)) (s0_becomeAs (A := x_live X) (B := H') R.ok.z okH.z (fun S9 e9 S10 e10 => ?_))
    subst e9
    have e11 : S10 = x_tape_s (x_ahead_s (x_live_s X H') H') (t_length_s T2 0) := e10.trans (xh1 X H' H' H' T2 (t_length_s T2 0))
    subst e11
    exact hs k H' _ ho okH hT2.1 rfl
  · intro S5 e5
    replace e5 : S5 = x_tape_s (x_ahead_s X H') T2 := e5.trans (xh0 X H' T2)
    subst e5
    have hS := tS_le (f := m_tape M) hPn
    refine br_t (neg_fin _ (by omega)) (fun S7 e7 => ?_)
    have e8 : S7 = x_tape_s (x_ahead_s X H') (t_length_s T2 0) := e7.trans (xh2 X H' T2 (t_length_s T2 0))
    subst e8
    exact h0 ho H' _ hz hT2.1 rfl
set_option maxHeartbeats 400000 in
theorem s5_house {post : Int32 → MSt → Prop} (R : Rel X M) {n P : Nat} {o : Option (Nat × HSt)} (hn : n ≤ 120) (en : m_tapeMany M = nI n) (eh : hsF (m_tape M) n (n + 1) 0 (x_live X) 0 = (P, o)) (h1 : ∀ t k H' q (a b c : Int32) (w : Int64) (v : Int32), o = some (k, H') → rowH q = H' → post (nI k) (m_tapeMany_s (mP (m_row_s (m_before_s M t) q) a b c w v 1) 0)) (h0 : ∀ t q (a b c : Int32) (w : Int64) (v : Int32), o = none → rowH q = rowH (m_row M) → post ((-1) - nI (tS (m_tape M) n P)) (m_tapeMany_s (mP (m_row_s (m_before_s M t) q) a b c w v 0) 0)) : wX5_house post M := by
  have t4 := R.2.2.2.2.1.2.2.2
  refine s5_save_before (fun t et S2 e2 S3 e3 => ⟨n + 3, ?_⟩)
  subst e2
  replace e3 : S3 = mP (m_row_s (m_before_s M t) (m_row M)) (m_sort M) (m_begins M) (nI 0) (m_word M) (m_value M) 1 := e3.trans (mh0 M t)
  subst e3
  have hN : Tp (m_tape M) n (m_before_s M t) := ⟨hn, rfl, en, t4⟩
  refine s5_hs (N := m_before_s M t) (D := 9999) (P := P) (o := o) hN (fun k H' M2 q ho eq hM2 => ?_) (fun ho k M2 q g hM2 => ?_) (n + 1) 0 0 (m_row M) (m_sort M) (m_begins M) (m_word M) (m_value M) (x_live X) (by omega) (Nat.zero_le n) R.eL.symm R.ok (Nat.le_refl 0) eh.symm
  · obtain ⟨a, b, c, w, v, rfl, -⟩ := hM2
    refine ⟨Or.inr rfl, fun S6 e6 S7 e7 => ?_⟩
    subst e6
    replace e7 := e7.trans (mh1 (m_row_s (m_before_s M t) q) a b c w v 1 1)
    subst e7
    exact bn_f (show ¬ (1 : Int32) = 0 by decide) (h1 t k H' q a b c w v ho eq)
  · have eb := hM2.begins
    obtain ⟨a, b, c, w, v, rfl, -⟩ := hM2
    refine ⟨Or.inl rfl, fun S6 e6 S7 e7 => ?_⟩
    subst e6
    replace e7 := e7.trans (mh1 (m_row_s (m_before_s M t) q) a b c w v g 0)
    subst e7
    refine bn_t (show (0 : Int32) = 0 from rfl) (s5_back_before (fun q2 eq2 => ?_))
    have e8 : b = nI (tS (m_tape M) n P) := eb
    subst e8
    rw [mh2]
    exact h0 t q2 a (nI (tS (m_tape M) n P)) c w v ho (eq2.trans et)
set_option maxHeartbeats 400000 in
theorem op_house (R : Rel X M) : wX4_house (fun a T => wX5_house (fun b N => a = b ∧ Rel T N) M) X := by
  obtain ⟨t1, t2, ⟨n, hn, en⟩, t4⟩ := id R.2.2.2.2.1
  cases eh : hsF (m_tape M) n (n + 1) 0 (x_live X) 0 with
  | mk P o =>
  refine s4_house R hn (t2.trans en) eh (fun k H' T ho okH hT hl => ?_) (fun ho A T zA hT hl => ?_)
  · refine s5_house R hn en eh (fun t k2 H2 q a b c w v ho2 eq => ?_) (fun t q a b c w v ho2 => absurd (ho.symm.trans ho2) (by simp))
    rw [ho] at ho2
    cases ho2
    exact ⟨rfl, R.text t q a b c w v 1 eq.symm okH okH.z hT hl⟩
  · refine s5_house R hn en eh (fun t k2 H2 q a b c w v ho2 => absurd (ho.symm.trans ho2) (by simp)) (fun t q a b c w v ho2 eq => ⟨rfl, ?_⟩)
    have := R.text (H := x_live X) (A := A) (T := T) t q a b c w v 0 (R.eL.trans eq.symm) R.ok zA hT hl
    exact this
end OpHouse
