/-! the reference's reader -/
theorem h_mem_self (H : HSt) : h_memories_s H (h_memories H) = H := rfl
theorem h_dust_self (H : HSt) : h_dust_s H (h_dust H) = H := rfl
section ParseM
variable {f : Nat → Int32} {n : Nat}
set_option maxHeartbeats 400000 in
theorem Tp.setRow {N : MSt} (h : Tp f n N) (q : Nat → Int32) : Tp f n (m_row_s N q) := h
set_option maxHeartbeats 400000 in
theorem MA.keep {N M' : MSt} {p : Nat} {g : Int32} (h : MA f n N M' p g) : MA f n (m_row_s N (m_row N)) M' p g := h
set_option maxHeartbeats 400000 in
theorem s5_mm52 {post : Int32 → MSt → Prop} {N : MSt} (hN : Tp f n N) {F : Nat} {p i : Nat} {M' : MSt} {s : Int32} (hp : p ≤ n) (hM : MA f n N M' p 1) (hi : i < 2 ^ 20) (ht : num f n p 10 = true → ∀ M2, MA f n N M2 (tE f n p) 1 → wX5_mayMemories_26 post F M2 (s ||| (1 <<< (nI (tV f n p) &&& 31))) (nI (i + 1))) (hf : num f n p 10 = false → ∀ y M2, MA f n N M2 p 0 → wX5_mayMemories_26 post F M2 y (nI (i + 1))) : wX5_mayMemories_52 post (wX5_mayMemories_26 post F) M' s (nI i) := by
  refine s5_wantNumber (K := 10) hN hp hM (by omega) (by decide) (fun z M2 h2 => ?_) (fun z y M2 h2 => ?_)
  · rw [h2.isGood]
    refine br_f (by decide) (fun y ey => ?_)
    subst ey
    rw [← nI_succ]
    exact ht z M2 h2
  · rw [h2.isGood]
    refine br_t rfl (fun y ey => ?_)
    rw [← nI_succ]
    exact hf z y M2 h2
set_option maxHeartbeats 400000 in
theorem s5_mm0 {post : Int32 → MSt → Prop} {N M2 : MSt} {F p : Nat} {y k : Int32} (h2 : MA f n N M2 p 0) (h : post y M2) : wX5_mayMemories_26 post (F + 1) M2 y k := by
  rw [wX5_mayMemories_26, h2.isGood]
  exact br_c (fun _ => h) (fun _ => br_t rfl h)
set_option maxHeartbeats 400000 in
theorem s5_mm {post : Int32 → MSt → Prop} {N : MSt} (hN : Tp f n N) {P : Nat} {o : Option Int32} (hs : ∀ v M2, o = some v → MA f n N M2 P 1 → post v M2) (hn : o = none → ∀ v M2 g, MA f n N M2 P g → (g = 0 ∨ (g = 1 ∧ tK f n P = 2)) → post v M2) : ∀ (c i p : Nat) (M' : MSt) (s : Int32), 1 ≤ i → i + c = 4 → p ≤ n → MA f n N M' p 1 → (P, o) = mmF f n c p s → wX5_mayMemories_26 post (c + 1) M' s (nI i) := by
  intro c
  induction c with
  | zero =>
    intro i p M' s h1 e0 hp hM e
    rw [wX5_mayMemories_26]
    refine br_t (nI_le (a := 4) (by omega) (by omega)) ?_
    rw [mmF] at e
    cases e
    by_cases k2 : tK f n P = 2
    · exact hn (if_pos k2) s M' 1 hM (Or.inr ⟨rfl, k2⟩)
    · exact hs s M' (if_neg k2) hM
  | succ c ih =>
    intro i p M' s h1 e0 hp hM e
    have hle := tK_le (f := f) (n := n) (p := p)
    obtain ⟨s1, s2, s0, s3⟩ := srt_eq hle
    rw [wX5_mayMemories_26, hM.isGood, hM.sortIs]
    refine br_f (nI_ge (b := 4) (by omega) (by omega)) (br_f (by decide) (br_f (nI_ne0 (by omega) (by omega)) ⟨fun c2 => ?_, fun c2 => ?_⟩))
    · have k2 : ¬ tK f n p = 2 := fun z => c2 (by rw [s2.mpr z]; rfl)
      have zf : num f n p 10 = false := by
        cases z : num f n p 10
        · rfl
        · exact absurd (num_iff.mp z).1 k2
      rw [mmF, zf] at e
      cases e
      exact hs s M' (if_neg k2) hM
    · have k2 : tK f n p = 2 := s2.mp ((nI_eq (b := 2) (by omega) (by decide)).mp c2)
      rw [mmF] at e
      refine s5_mm52 hN hp hM (by omega) (fun z M2 h2 => ?_) (fun z y M2 h2 => ?_)
      · rw [z] at e
        exact ih (i + 1) (tE f n p) M2 _ (by omega) (by omega) (tE_up hp).2 h2 e
      · rw [z] at e
        cases e
        exact s5_mm0 h2 (hn (if_pos k2) y M2 0 h2 (Or.inl rfl))
set_option maxHeartbeats 400000 in
theorem s5_mems {post : Int32 → MSt → Prop} {N : MSt} (hN : Tp f n N) {p : Nat} {M' : MSt} (hp : p ≤ n) (hM : MA f n N M' p 1) (hs : ∀ v M2, (mems f n p).2 = some v → MA f n N M2 (mems f n p).1 1 → post v M2) (hn : (mems f n p).2 = none → ∀ v M2 g, MA f n N M2 (mems f n p).1 g → (g = 0 ∨ (g = 1 ∧ tK f n (mems f n p).1 = 2)) → post v M2) : ∃ k : Nat, wX5_mayMemories_26 post k M' 0 0 := by
  refine ⟨5, ?_⟩
  rw [wX5_mayMemories_26, hM.isGood]
  refine br_f (by decide) (br_f (by decide) (br_t rfl (s5_mm52 (i := 0) hN hp hM (by omega) (fun z M2 h2 => ?_) (fun z y M2 h2 => ?_))))
  · have em : mems f n p = mmF f n 3 (tE f n p) ((0 : Int32) ||| (1 <<< (nI (tV f n p) &&& 31))) := by
      unfold mems
      rw [z, mmF, z]
      rfl
    rw [em] at hs hn
    exact s5_mm hN hs hn 3 1 (tE f n p) M2 _ (by omega) (by omega) (tE_up hp).2 h2 rfl
  · have em : mems f n p = (p, none) := by unfold mems; rw [z]; rfl
    rw [em] at hn
    exact s5_mm0 h2 (hn rfl y M2 0 h2 (Or.inl rfl))
set_option maxHeartbeats 400000 in
theorem s5_mayWant {post : Int32 → MSt → Prop} {N : MSt} (hN : Tp f n N) {p k K : Nat} {M' : MSt} {C : Int64} {m other : Int32} (hp : p ≤ n) (hM : MA f n N M' p 1) (hk : k < 13) (eC : wC k = C) (hK : K ≤ 1000) (em : m = nI K - 1) (h0 : wrd f n p k = false → post other M') (h1 : wrd f n p k = true → num f n (tE f n p) K = true → ∀ M2, MA f n N M2 (tE f n (tE f n p)) 1 → post (nI (tV f n (tE f n p))) M2) (h2 : wrd f n p k = true → num f n (tE f n p) K = false → ∀ y M2, MA f n N M2 (tE f n p) 0 → post y M2) : wX5_mayWant post M' C 0 m other := by
  refine br_f (by rw [hM.isGood]; decide) (s5_isWord hp hM hk ?_ eC)
  cases w : wrd f n p k
  · exact bn_t rfl (h0 w)
  · exact bn_f (by decide) (s5_adv hN hp hM (fun M2 hM2 => s5_wantNumber hN (tE_up hp).2 hM2 hK em (h1 w) (h2 w)))
set_option maxHeartbeats 400000 in
theorem s5_mayWant0 {post : Int32 → MSt → Prop} {N M' : MSt} {p : Nat} {C : Int64} {x m other : Int32} (hM : MA f n N M' p 0) (h : post other M') : wX5_mayWant post M' C x m other := br_t hM.isGood h
set_option maxHeartbeats 400000 in
theorem s5_mayMem {post : Int32 → MSt → Prop} {N : MSt} (hN : Tp f n N) {p k : Nat} {M' : MSt} {C : Int64} (hp : p ≤ n) (hM : MA f n N M' p 1) (hk : k < 13) (eC : wC k = C) (h0 : wrd f n p k = false → post (-1) M') (hs : wrd f n p k = true → ∀ v M2, (mems f n (tE f n p)).2 = some v → MA f n N M2 (mems f n (tE f n p)).1 1 → post v M2) (hn : wrd f n p k = true → (mems f n (tE f n p)).2 = none → ∀ v M2 g, MA f n N M2 (mems f n (tE f n p)).1 g → (g = 0 ∨ (g = 1 ∧ tK f n (mems f n (tE f n p)).1 = 2)) → post v M2) : wX5_mayMemories post M' C := by
  refine br_f (by rw [hM.isGood]; decide) (s5_isWord hp hM hk ?_ eC)
  cases w : wrd f n p k
  · exact bn_t rfl (h0 w)
  · exact bn_f (by decide) (s5_adv hN hp hM (fun M2 hM2 => s5_mems hN (tE_up hp).2 hM2 (hs w) (hn w)))
set_option maxHeartbeats 400000 in
theorem s5_mayMem0 {post : Int32 → MSt → Prop} {N M' : MSt} {p : Nat} {C : Int64} (hM : MA f n N M' p 0) (h : post (-1) M') : wX5_mayMemories post M' C := br_t hM.isGood h
set_option maxHeartbeats 400000 in
theorem wrd_not {p k : Nat} (h : tK f n p = 2) : wrd f n p k = false := by
  cases z : wrd f n p k
  · rfl
  · have := (wrd_iff.mp z).1
    omega
/-! one more, out of the text -/
set_option maxHeartbeats 400000 in
theorem s5_adG {post : MSt → Prop} {N : MSt} (hN : Tp f n N) {p d : Nat} {M' : MSt} {k v5 s : Int32} (hp : p ≤ n) (hM : MA f n N M' p 1) (hd : d < 8) (ed : h_dusters (rowH (m_row N)) = nI d) (hv : (0 ≤ v5 ∧ s = v5) ∨ (¬ 0 ≤ v5 ∧ s = 0)) (hs : ∀ H' M2 q, (adG f n p (rowH (m_row N)) k s).2 = some H' → rowH q = H' → MA f n (m_row_s N q) M2 (adG f n p (rowH (m_row N)) k s).1 1 → post M2) (hn : (adG f n p (rowH (m_row N)) k s).2 = none → ∀ M2 q g, MA f n (m_row_s N q) M2 (adG f n p (rowH (m_row N)) k s).1 g → (g = 0 ∨ (g = 1 ∧ tK f n (adG f n p (rowH (m_row N)) k s).1 = 2)) → post M2) : wX5_mayWant (fun v7 S8 => ((m_good S8) = 0 → post S8) ∧ (¬ (m_good S8) = 0 → (0 ≤ v5 → wX5_adds (fun S11 => post S11) S8 k v5 v7) ∧ (¬ 0 ≤ v5 → wX5_adds (fun S12 => post S12) S8 k 0 v7))) M' 4081298 0 99 0 := by
  unfold adG at hs hn
  have add : ∀ (v7 : Int32) (M2 : MSt) (P : Nat), MA f n N M2 P 1 → (∀ M3 q, rowH q = adS (rowH (m_row N)) k s v7 → MA f n (m_row_s N q) M3 P 1 → post M3) → ((m_good M2) = 0 → post M2) ∧ (¬ (m_good M2) = 0 → (0 ≤ v5 → wX5_adds (fun S11 => post S11) M2 k v5 v7) ∧ (¬ 0 ≤ v5 → wX5_adds (fun S12 => post S12) M2 k 0 v7)) := by
    intro v7 M2 P h2 h3
    have ed2 : h_dusters (rowH (m_row M2)) = nI d := by rw [h2.row]; exact ed
    refine br_f (by rw [h2.isGood]; decide) ?_
    rcases hv with ⟨q1, q2⟩ | ⟨q1, q2⟩
    · subst q2
      exact br_t q1 (s5_adds hd ed2 (fun q eq => h3 _ q (by rw [eq, h2.row]) (h2.setRow q)))
    · subst q2
      exact br_f q1 (s5_adds hd ed2 (fun q eq => h3 _ q (by rw [eq, h2.row]) (h2.setRow q)))
  refine s5_mayWant (k := 7) (K := 100) hN hp hM (by omega) wC_vals.2.2.2.2.2.2.2.1 (by omega) (by decide) (fun w => ?_) (fun w z M2 h2 => ?_) (fun w z y M2 h2 => ?_)
  · rw [w] at hs
    exact add 0 M' p hM (fun M3 q eq h3 => hs _ M3 q rfl eq h3)
  · rw [w, z] at hs
    exact add _ M2 _ h2 (fun M3 q eq h3 => hs _ M3 q rfl eq h3)
  · rw [w, z] at hn
    exact br_t h2.isGood (hn rfl M2 (m_row N) 0 h2.keep (Or.inl rfl))
set_option maxHeartbeats 400000 in
theorem s5_dsF {post : MSt → Prop} {N : MSt} (hN : Tp f n N) {p D : Nat} {M' : MSt} {k : Int32} (hp : p ≤ n) (hM : MA f n N M' p 1) (ok : okS D (rowH (m_row N))) (hs : ∀ H' M2 q, (dsF f n p (rowH (m_row N)) k).2 = some H' → rowH q = H' → MA f n (m_row_s N q) M2 (dsF f n p (rowH (m_row N)) k).1 1 → post M2) (hn : (dsF f n p (rowH (m_row N)) k).2 = none → ∀ M2 q g, MA f n (m_row_s N q) M2 (dsF f n p (rowH (m_row N)) k).1 g → (g = 0 ∨ (g = 1 ∧ tK f n (dsF f n p (rowH (m_row N)) k).1 = 2)) → post M2) : wX5_wantOne post M' k := by
  obtain ⟨d, hd, ed⟩ := ok.many
  unfold dsF at hs hn
  rw [ed, nI_clamp (by omega)] at hs hn
  have hp1 := (tE_up (f := f) hp).2
  have hp2 := (tE_up (f := f) hp1).2
  unfold wX5_wantOne
  rw [cl2, hM.row, show m_row N 2 = nI d from ed]
  refine ⟨vp2, br_c (fun c => ?_) (fun c => ?_)⟩
  · have hd8 : 8 ≤ d := (nI_leI (a := 8) (by decide) (by omega)).mp c
    rw [if_pos hd8] at hn
    refine ⟨Or.inl rfl, fun S2 e2 => ?_⟩
    subst e2
    exact bn_t rfl (hn rfl _ (m_row N) 0 (MA.keep (N := N) hM.good) (Or.inl rfl))
  · have hd8 : d < 8 := Nat.not_le.mp (fun w => c (nI_le (a := 8) w (by omega)))
    rw [if_neg (by omega)] at hs hn
    refine ⟨Or.inr rfl, fun S2 e2 => ?_⟩
    subst e2
    refine bn_f (show ¬ (1 : Int32) = 0 by decide) (s5_adv (N := N) hN hp hM.good (fun M1 h1 => ?_))
    refine s5_mayMem (k := 6) hN hp1 h1 (by omega) wC_vals.2.2.2.2.2.2.1 (fun w => ?_) (fun w v M2 hv h2 => ?_) (fun w hv v M2 g h2 hg => ?_)
    · rw [w] at hs hn
      exact s5_adG hN hp1 h1 hd8 ed (Or.inr ⟨by decide, rfl⟩) hs hn
    · rw [w] at hs hn
      have hr := mems_Rg hv
      cases em : mems f n (tE f n (tE f n p)) with
      | mk P o =>
        rw [em] at hs hn hv h2
        replace hv : o = some v := hv
        subst hv
        have hP : P ≤ n := by have := (mems_le (f := f) hp2).2; rw [em] at this; exact this
        exact s5_adG hN hP h2 hd8 ed (Or.inl ⟨hr.nn (by decide), rfl⟩) hs hn
    · rw [w] at hn
      cases em : mems f n (tE f n (tE f n p)) with
      | mk P o =>
        rw [em] at hn hv h2 hg
        replace hv : o = none := hv
        subst hv
        have hP : P ≤ n := by have := (mems_le (f := f) hp2).2; rw [em] at this; exact this
        rcases hg with hg | ⟨hg, k2⟩
        · subst hg
          exact s5_mayWant0 h2 (br_t h2.isGood (hn rfl M2 (m_row N) 0 h2.keep (Or.inl rfl)))
        · subst hg
          have ed2 : h_dusters (rowH (m_row M2)) = nI d := by rw [h2.row]; exact ed
          refine s5_mayWant (k := 7) (K := 100) hN hP h2 (by omega) wC_vals.2.2.2.2.2.2.2.1 (by omega) (by decide) (fun _ => ?_) (fun w7 => ?_) (fun w7 => ?_)
          · refine br_f (by rw [h2.isGood]; decide) (br_c (fun _ => ?_) (fun _ => ?_))
            · exact s5_adds hd8 ed2 (fun q _ => hn rfl _ q 1 (h2.setRow q) (Or.inr ⟨rfl, k2⟩))
            · exact s5_adds hd8 ed2 (fun q _ => hn rfl _ q 1 (h2.setRow q) (Or.inr ⟨rfl, k2⟩))
          · have := wrd_not (f := f) (n := n) (p := P) (k := 7) k2
            exact absurd (w7.symm.trans this) (by simp)
          · have := wrd_not (f := f) (n := n) (p := P) (k := 7) k2
            exact absurd (w7.symm.trans this) (by simp)
/-! a room, out of the text -/
set_option maxHeartbeats 400000 in
theorem s5_rmC {post : MSt → Prop} {N : MSt} (hN : Tp f n N) {p r : Nat} {M' : MSt} {v6 : Int32} {H2 : HSt} (e2 : H2 = h_dust_s (rowH (m_row N)) (upd (h_dust (rowH (m_row N))) r v6)) (hr : r < 8) (hp : p ≤ n) (hM : MA f n N M' p 1) (hs : ∀ H' M2 q, (rmC f n p H2 r).2 = some H' → rowH q = H' → MA f n (m_row_s N q) M2 (rmC f n p H2 r).1 1 → post M2) (hn : (rmC f n p H2 r).2 = none → ∀ M2 q g, MA f n (m_row_s N q) M2 (rmC f n p H2 r).1 g → (g = 0 ∨ (g = 1 ∧ tK f n (rmC f n p H2 r).1 = 2)) → post M2) : wX5_mayMemories (fun v8 S9 => ((m_good S9) = 0 → post S9) ∧ (¬ (m_good S9) = 0 → wX5_places (fun S11 => (0 ≤ v8 → wX5_places (fun S13 => post S13) S11 (nI r) 1 v8) ∧ (¬ 0 ≤ v8 → wX5_there (fun v14 => wX5_places (fun S15 => post S15) S11 (nI r) 1 v14) S11 (nI r) 1)) S9 (nI r) 0 v6)) M' 5878 := by
  unfold rmC at hs hn
  have put : ∀ (v8 : Int32) (M2 : MSt) (P : Nat), MA f n N M2 P 1 → (0 ≤ v8 → ∀ M3 q, rowH q = h_memories_s H2 (upd (h_memories H2) r v8) → MA f n (m_row_s N q) M3 P 1 → post M3) → (¬ 0 ≤ v8 → ∀ M3 q, rowH q = H2 → MA f n (m_row_s N q) M3 P 1 → post M3) → ((m_good M2) = 0 → post M2) ∧ (¬ (m_good M2) = 0 → wX5_places (fun S11 => (0 ≤ v8 → wX5_places (fun S13 => post S13) S11 (nI r) 1 v8) ∧ (¬ 0 ≤ v8 → wX5_there (fun v14 => wX5_places (fun S15 => post S15) S11 (nI r) 1 v14) S11 (nI r) 1)) M2 (nI r) 0 v6) := by
    intro v8 M2 P h2 k1 k0
    refine br_f (by rw [h2.isGood]; decide) (s5_places_dust hr (fun q1 e1 => ?_))
    rw [h2.row, ← e2] at e1
    refine br_c (fun c => s5_places_memories hr (fun q3 e3 => ?_)) (fun c => s5_there_memories hr (s5_places_memories hr (fun q3 e3 => ?_)))
    · replace e3 : rowH q3 = h_memories_s (rowH q1) (upd (h_memories (rowH q1)) r v8) := e3
      rw [e1] at e3
      exact k1 c _ q3 e3 ((h2.setRow q1).setRow q3)
    · replace e3 : rowH q3 = h_memories_s (rowH q1) (upd (h_memories (rowH q1)) r (h_memories (rowH q1) r)) := e3
      rw [e1, upd_self, h_mem_self] at e3
      exact k0 c _ q3 e3 ((h2.setRow q1).setRow q3)
  refine s5_mayMem (k := 10) hN hp hM (by omega) wC_vals.2.2.2.2.2.2.2.2.2.2.1 (fun w => ?_) (fun w v M2 hv h2 => ?_) (fun w hv v M2 g h2 hg => ?_)
  · rw [w] at hs
    exact put (-1) M' p hM (fun z => absurd z (by decide)) (fun _ M3 q eq h3 => hs _ M3 q rfl eq h3)
  · rw [w] at hs
    have hrg := mems_Rg hv
    cases em : mems f n (tE f n p) with
    | mk P o =>
      rw [em] at hs hv h2
      replace hv : o = some v := hv
      subst hv
      exact put v M2 P h2 (fun _ M3 q eq h3 => hs _ M3 q rfl eq h3) (fun z => absurd (hrg.nn (by decide)) z)
  · rw [w] at hn
    cases em : mems f n (tE f n p) with
    | mk P o =>
      rw [em] at hn hv h2 hg
      replace hv : o = none := hv
      subst hv
      rcases hg with hg | ⟨hg, k2⟩
      · subst hg
        exact br_t h2.isGood (hn rfl M2 (m_row N) 0 h2.keep (Or.inl rfl))
      · subst hg
        exact put v M2 P h2 (fun _ M3 q _ h3 => hn rfl M3 q 1 h3 (Or.inr ⟨rfl, k2⟩)) (fun _ M3 q _ h3 => hn rfl M3 q 1 h3 (Or.inr ⟨rfl, k2⟩))
set_option maxHeartbeats 400000 in
theorem s5_rmF {post : MSt → Prop} {N : MSt} (hN : Tp f n N) {p : Nat} {M' : MSt} (hp : p ≤ n) (hM : MA f n N M' p 1) (hs : ∀ H' M2 q, (rmF f n (tE f n p) (rowH (m_row N))).2 = some H' → rowH q = H' → MA f n (m_row_s N q) M2 (rmF f n (tE f n p) (rowH (m_row N))).1 1 → post M2) (hn : (rmF f n (tE f n p) (rowH (m_row N))).2 = none → ∀ M2 q g, MA f n (m_row_s N q) M2 (rmF f n (tE f n p) (rowH (m_row N))).1 g → (g = 0 ∨ (g = 1 ∧ tK f n (rmF f n (tE f n p) (rowH (m_row N))).1 = 2)) → post M2) : wX5_wantRoom post M' := by
  have hp1 := (tE_up (f := f) hp).2
  have hp2 := (tE_up (f := f) hp1).2
  have hp3 := (tE_up (f := f) hp2).2
  have hp4 := (tE_up (f := f) hp3).2
  refine s5_adv hN hp hM (fun M1 h1 => s5_wantNumber (K := 8) hN hp1 h1 (by omega) (by decide) (fun z M2 h2 => ?_) (fun z y M2 h2 => ?_))
  · have hr := (num_iff.mp z).2
    refine bn_f (by rw [h2.isGood]; decide) (s5_there_dust hr ?_)
    rw [h2.row]
    refine s5_mayWant (k := 9) (K := 100) hN hp2 h2 (by omega) wC_vals.2.2.2.2.2.2.2.2.2.1 (by omega) (by decide) (fun w => ?_) (fun w z2 M3 h3 => ?_) (fun w z2 y M3 h3 => ?_)
    · have e1 : rmF f n (tE f n p) (rowH (m_row N)) = rmC f n (tE f n (tE f n p)) (rowH (m_row N)) (tV f n (tE f n p)) := by
        unfold rmF
        rw [if_pos z, if_neg (by rw [w]; decide)]
      rw [e1] at hs hn
      refine s5_rmC (H2 := rowH (m_row N)) hN ?_ hr hp2 h2 hs hn
      rw [upd_self, h_dust_self]
    · have e1 : rmF f n (tE f n p) (rowH (m_row N)) = rmC f n (tE f n (tE f n (tE f n (tE f n p)))) (h_dust_s (rowH (m_row N)) (upd (h_dust (rowH (m_row N))) (tV f n (tE f n p)) (nI (tV f n (tE f n (tE f n (tE f n p))))))) (tV f n (tE f n p)) := by
        unfold rmF
        rw [if_pos z, if_pos w, if_pos z2]
      rw [e1] at hs hn
      exact s5_rmC hN rfl hr hp4 h3 hs hn
    · have e1 : rmF f n (tE f n p) (rowH (m_row N)) = (tE f n (tE f n (tE f n p)), none) := by
        unfold rmF
        rw [if_pos z, if_pos w, if_neg (by rw [z2]; decide)]
      rw [e1] at hn
      exact s5_mayMem0 h3 (br_t h3.isGood (hn rfl M3 (m_row N) 0 h3.keep (Or.inl rfl)))
  · have e1 : rmF f n (tE f n p) (rowH (m_row N)) = (tE f n p, none) := by
      unfold rmF
      rw [if_neg (by rw [z]; decide)]
    rw [e1] at hn
    exact bn_t h2.isGood (hn rfl M2 (m_row N) 0 h2.keep (Or.inl rfl))
set_option maxHeartbeats 400000 in
theorem s5_kindHere {post : Int32 → Prop} {N M' : MSt} {p : Nat} {g : Int32} (hp : p ≤ n) (hM : MA f n N M' p g) (h : post (if tK f n p = 1 ∧ tV f n p ≤ 5 then nI (tV f n p) else -1)) : wX5_kindHere post M' := by
  have yes : ∀ k, k ≤ 5 → wrd f n p k = true → post (nI k) := by
    intro k hk w
    obtain ⟨w1, w2⟩ := wrd_iff.mp w
    rw [if_pos ⟨w1, by omega⟩, w2] at h
    exact h
  refine s5_isWord (k := 0) hp hM (by omega) ?_ wC_vals.1
  cases w0 : wrd f n p 0
  case true => exact br_f (by decide) (yes 0 (by omega) w0)
  refine br_t rfl (s5_isWord (k := 1) hp hM (by omega) ?_ wC_vals.2.1)
  cases w1 : wrd f n p 1
  case true => exact br_f (by decide) (yes 1 (by omega) w1)
  refine br_t rfl (s5_isWord (k := 2) hp hM (by omega) ?_ wC_vals.2.2.1)
  cases w2 : wrd f n p 2
  case true => exact br_f (by decide) (yes 2 (by omega) w2)
  refine br_t rfl (s5_isWord (k := 3) hp hM (by omega) ?_ wC_vals.2.2.2.1)
  cases w3 : wrd f n p 3
  case true => exact br_f (by decide) (yes 3 (by omega) w3)
  refine br_t rfl (s5_isWord (k := 4) hp hM (by omega) ?_ wC_vals.2.2.2.2.1)
  cases w4 : wrd f n p 4
  case true => exact br_f (by decide) (yes 4 (by omega) w4)
  refine br_t rfl (s5_isWord (k := 5) hp hM (by omega) ?_ wC_vals.2.2.2.2.2.1)
  cases w5 : wrd f n p 5
  case true => exact br_f (by decide) (yes 5 (by omega) w5)
  refine br_t rfl ?_
  have no : ¬ (tK f n p = 1 ∧ tV f n p ≤ 5) := by
    rintro ⟨k1, k2⟩
    have key : ∀ k, wrd f n p k = false → tV f n p ≠ k := fun k w e => by
      have := wrd_iff.mpr ⟨k1, e⟩
      rw [w] at this
      cases this
    have := key 0 w0
    have := key 1 w1
    have := key 2 w2
    have := key 3 w3
    have := key 4 w4
    have := key 5 w5
    omega
  rw [if_neg no] at h
  exact h
set_option maxHeartbeats 400000 in
theorem s5_itF {post : MSt → Prop} {N : MSt} (hN : Tp f n N) {p D : Nat} {M' : MSt} (hp : p ≤ n) (hM : MA f n N M' p 1) (ok : okS D (rowH (m_row N))) (hs : ∀ H' M2 q, (itF f n p (rowH (m_row N))).2 = some H' → rowH q = H' → MA f n (m_row_s N q) M2 (itF f n p (rowH (m_row N))).1 1 → post M2) (hn : (itF f n p (rowH (m_row N))).2 = none → ∀ M2 q g, MA f n (m_row_s N q) M2 (itF f n p (rowH (m_row N))).1 g → (g = 0 ∨ (g = 1 ∧ tK f n (itF f n p (rowH (m_row N))).1 = 2)) → post M2) : wX5_wantItem post M' := by
  have hvl := tV_le (f := f) (n := n) (p := p)
  have hp1 := (tE_up (f := f) hp).2
  unfold itF at hs hn
  refine s5_kindHere hp hM ?_
  by_cases c5 : tK f n p = 1 ∧ tV f n p ≤ 5
  · rw [if_pos c5]
    obtain ⟨k1, k5⟩ := c5
    rw [if_pos k1, if_neg (by omega), if_neg (by omega), if_neg (by omega), if_pos k5] at hs hn
    refine br_f (nI_pos (by omega)) (s5_kindHere hp hM ?_)
    rw [if_pos ⟨k1, k5⟩]
    exact s5_dsF hN hp hM ok hs hn
  · rw [if_neg c5]
    refine br_t (by decide) (s5_isWord (k := 8) hp hM (by omega) ?_ wC_vals.2.2.2.2.2.2.2.2.1)
    cases w8 : wrd f n p 8
    case true =>
      obtain ⟨k1, k8⟩ := wrd_iff.mp w8
      rw [if_pos k1, if_pos k8] at hs hn
      exact br_f (by decide) (s5_rmF hN hp hM hs hn)
    refine br_t rfl (s5_isWord (k := 11) hp hM (by omega) ?_ wC_vals.2.2.2.2.2.2.2.2.2.2.2.1)
    cases w11 : wrd f n p 11
    case true =>
      obtain ⟨k1, k11⟩ := wrd_iff.mp w11
      rw [if_pos k1, if_neg (by omega), if_pos k11] at hs hn
      unfold faF at hs hn
      refine br_f (by decide) (s5_adv hN hp hM (fun M1 h1 => s5_wantNumber (K := 21) hN hp1 h1 (by omega) (by decide) (fun z M2 h2 => ?_) (fun z y M2 h2 => ?_)))
      · rw [z] at hs
        refine br_f (by rw [h2.isGood]; decide) ⟨vp1, fun S21 e21 => ?_⟩
        subst e21
        rw [cl1]
        refine hs _ _ (upd (m_row M2) 1 (nI (tV f n (tE f n p)))) rfl ?_ (h2.setRow _)
        rw [rowU_fall, h2.row]
      · rw [z] at hn
        refine br_t h2.isGood ⟨vp1, vp1, fun S20 e20 => ?_⟩
        subst e20
        exact hn rfl _ _ 0 (h2.setRow _) (Or.inl rfl)
    refine br_t rfl (s5_isWord (k := 12) hp hM (by omega) ?_ wC_vals.2.2.2.2.2.2.2.2.2.2.2.2)
    cases w12 : wrd f n p 12
    case true =>
      obtain ⟨k1, k12⟩ := wrd_iff.mp w12
      rw [if_pos k1, if_neg (by omega), if_neg (by omega), if_pos k12] at hs hn
      unfold wsF at hs hn
      obtain ⟨d, hd, ed⟩ := ok.many
      rw [ed, nI_clamp (by omega)] at hs hn
      refine br_f (by decide) (s5_adv hN hp hM (fun M1 h1 => ⟨vp2, ?_⟩))
      rw [cl2, h1.row, show m_row N 2 = nI d from ed]
      refine s5_wantNumber (K := d) hN hp1 h1 (by omega) rfl (fun z M2 h2 => ?_) (fun z y M2 h2 => ?_)
      · rw [z] at hs
        have hlt := (num_iff.mp z).2
        refine br_f (by rw [h2.isGood]; decide) (s5_washes (by omega) (fun q eq => ?_))
        rw [h2.row] at eq
        exact hs _ _ q rfl eq (h2.setRow q)
      · rw [z] at hn
        exact br_t h2.isGood (hn rfl M2 (m_row N) 0 h2.keep (Or.inl rfl))
    refine br_t rfl (fun S9 e9 => ?_)
    subst e9
    have en : (if tK f n p = 1 then (if tV f n p = 8 then rmF f n (tE f n p) (rowH (m_row N)) else if tV f n p = 11 then faF f n (tE f n p) (rowH (m_row N)) else if tV f n p = 12 then wsF f n (tE f n p) (rowH (m_row N)) else if tV f n p ≤ 5 then dsF f n p (rowH (m_row N)) (nI (tV f n p)) else (p, none)) else (p, none)) = (p, none) := by
      by_cases k1 : tK f n p = 1
      · have key : ∀ k, wrd f n p k = false → tV f n p ≠ k := fun k w e => by
          have := wrd_iff.mpr ⟨k1, e⟩
          rw [w] at this
          cases this
        rw [if_pos k1, if_neg (key 8 w8), if_neg (key 11 w11), if_neg (key 12 w12), if_neg (fun q => c5 ⟨k1, q⟩)]
      · rw [if_neg k1]
    rw [en] at hn
    exact hn rfl _ (m_row N) 0 (MA.keep (N := N) hM.good) (Or.inl rfl)
end ParseM
