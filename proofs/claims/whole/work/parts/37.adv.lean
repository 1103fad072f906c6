/-! tokens of the reference -/
def mP (N : MSt) (a b c : Int32) (w : Int64) (v g : Int32) : MSt := (N.1, N.2.1, N.2.2.1, N.2.2.2.1, N.2.2.2.2.1, N.2.2.2.2.2.1, a, b, c, w, v, g, N.2.2.2.2.2.2.2.2.2.2.2.2)
set_option maxHeartbeats 800000 in
theorem mP_eta (N : MSt) : N = mP N (m_sort N) (m_begins N) (m_tokenEnds N) (m_word N) (m_value N) (m_good N) := rfl
def hsh (f : Nat → Int32) (s : Nat) : Nat → Int64
  | 0 => 0
  | j + 1 => if 12 ≤ j then -1 else ((27 * hsh f s j) + (Int32.toInt64 (f (s + j)))) - 96
def nM (f : Nat → Int32) (s : Nat) : Nat → Nat
  | 0 => 0
  | j + 1 => if nM f s j ≤ 999 then 10 * nM f s j + (f (s + j)).toNatClampNeg - 48 else 10000
set_option maxHeartbeats 800000 in
theorem nXM {f : Nat → Int32} {s : Nat} (hB : ∀ i, Rg 255 (f i)) : ∀ j, (∀ i, i < j → bD (f (s + i)) = true) → (nX f s j ≤ 999 → nM f s j = nX f s j) ∧ (999 < nX f s j → 1000 ≤ nM f s j) ∧ nM f s j ≤ 10000 := by
  intro j
  induction j with
  | zero => intro _; exact ⟨fun _ => rfl, fun h => absurd (show 999 < 0 from h) (by decide), Nat.zero_le _⟩
  | succ j ih =>
    intro hd
    obtain ⟨h1, h2, h3⟩ := ih (fun i hi => hd i (by omega))
    have hx := nX_le f s j
    have hq := hd j (by omega)
    obtain ⟨b, hb, eb⟩ := hB (s + j)
    unfold bD at hq
    rw [Bool.and_eq_true, decide_eq_true_eq, decide_eq_true_eq, eb] at hq
    have q1 : 48 ≤ b := (nI_leI (a := 48) (by decide) (by omega)).mp hq.1
    have q2 : b ≤ 57 := (nI_leI (b := 57) (by omega) (by decide)).mp hq.2
    rw [nX, nM, eb, nI_clamp (by omega)]
    by_cases c : nX f s j ≤ 999
    · have e := h1 c
      rw [e, if_pos c]
      split <;> omega
    · have e := h2 (by omega)
      rw [if_neg (show ¬ nM f s j ≤ 999 by omega)]
      split <;> omega
def srt (k : Nat) : Nat := if k = 4 then 3 else k
/-! the reference looks at the token behind p -/
def MA (f : Nat → Int32) (n : Nat) (N M' : MSt) (p : Nat) (g : Int32) : Prop := ∃ (a b c : Int32) (w : Int64) (v : Int32), M' = mP N a b c w v g ∧ b = nI (tS f n p) ∧ c = nI (tE f n p) ∧ a = nI (srt (tK f n p)) ∧ (tK f n p = 1 → w = hsh f (tS f n p) (tE f n p - tS f n p)) ∧ (tK f n p = 2 → (tV f n p ≤ 999 → v = nI (tV f n p)) ∧ (999 < tV f n p → nI 1000 ≤ v)) ∧ (tK f n p = 3 → v = 59) ∧ (tK f n p = 4 → ¬ v = 59)
section TokM
variable {f : Nat → Int32} {n : Nat}
def bA (f : Nat → Int32) (n i : Nat) : Int32 := if i < n then f i else -1
set_option maxHeartbeats 800000 in
theorem s5_byteAt {post : Int32 → Prop} {M : MSt} {i : Nat} (hn : n ≤ 120) (hb : m_tape M = f) (hl : m_tapeMany M = nI n) (hi : i ≤ 120) (h : post (bA f n i)) : wX5_byteAt post M (nI i) := by
  unfold wX5_byteAt
  unfold bA at h
  rw [hb, hl, nI_clamp (by omega)]
  by_cases c : i < n
  · rw [if_pos c] at h
    exact br_f (nI_ge c (by omega)) ⟨v120 (by omega), h⟩
  · rw [if_neg c] at h
    exact br_t (nI_le (by omega) (by omega)) h
set_option maxHeartbeats 800000 in
theorem s5_isLetter {post : Int32 → Prop} {b : Int32} (h : post (if bL b then 1 else 0)) : wX5_isLetter post b := by
  by_cases c : 97 ≤ b ∧ b ≤ 122
  · rw [if_pos (by simp [bL, c.1, c.2])] at h
    exact s5_in_t c.1 c.2 ⟨Or.inr rfl, h⟩
  · rw [if_neg (by simp [bL]; exact fun q => Int32.not_le.mp (fun w => c ⟨q, w⟩))] at h
    exact s5_in_f c ⟨Or.inl rfl, h⟩
set_option maxHeartbeats 800000 in
theorem s5_isDigit {post : Int32 → Prop} {b : Int32} (h : post (if bD b then 1 else 0)) : wX5_isDigit post b := by
  by_cases c : 48 ≤ b ∧ b ≤ 57
  · rw [if_pos (by simp [bD, c.1, c.2])] at h
    exact s5_in_t c.1 c.2 ⟨Or.inr rfl, h⟩
  · rw [if_neg (by simp [bD]; exact fun q => Int32.not_le.mp (fun w => c ⟨q, w⟩))] at h
    exact s5_in_f c ⟨Or.inl rfl, h⟩
set_option maxHeartbeats 800000 in
theorem s5_adv_207 {post : MSt → Prop} {N : MSt} {s : Nat} {w : Int64} {g : Int32} (hn : n ≤ 120) (hb : m_tape N = f) (hl : m_tapeMany N = nI n) (hB : ∀ i, Rg 255 (f i)) {e : Nat} (h : post (mP N 2 (nI s) (nI e) w (nI (nM f s (e - s))) g)) : ∀ (c i : Nat), i + c = n → s ≤ i → e = run bD f c i → (∀ j, j < i - s → bD (f (s + j)) = true) → wX5_advance_207 post (c + 1) (mP N 2 (nI s) (nI i) w (nI (nM f s (i - s))) g) := by
  intro c
  induction c with
  | zero =>
    intro i e0 h1 h2 hd
    replace h2 : e = i := h2
    subst h2
    rw [wX5_advance_207]
    refine bn_t rfl (s5_byteAt (f := f) (n := n) (i := e) hn hb hl (by omega) (s5_isDigit ?_))
    have : bA f n e = -1 := if_neg (by omega)
    rw [this]
    exact br_t rfl h
  | succ c ih =>
    intro i e0 h1 h2 hd
    rw [wX5_advance_207]
    refine bn_t rfl (s5_byteAt (f := f) (n := n) (i := i) hn hb hl (by omega) (s5_isDigit ?_))
    have eb : bA f n i = f i := if_pos (by omega)
    rw [eb]
    rw [run] at h2
    cases q : bD (f i)
    · rw [q] at h2
      replace h2 : e = i := h2
      subst h2
      exact br_t rfl h
    · rw [q] at h2
      have hd2 : ∀ j, j < i + 1 - s → bD (f (s + j)) = true := by
        intro j hj
        by_cases z : j < i - s
        · exact hd j z
        · rw [show s + j = i from by omega]; exact q
      obtain ⟨b, hb2, eb2⟩ := hB i
      have q' := q
      unfold bD at q'
      rw [Bool.and_eq_true, decide_eq_true_eq, decide_eq_true_eq, eb2] at q'
      have q1 : 48 ≤ b := (nI_leI (a := 48) (by decide) (by omega)).mp q'.1
      have h3 := (nXM hB (i - s) hd).2.2
      have en : nM f s (i + 1 - s) = if nM f s (i - s) ≤ 999 then 10 * nM f s (i - s) + b - 48 else 10000 := by
        rw [show i + 1 - s = (i - s) + 1 from by omega, nM, show s + (i - s) = i from by omega, eb2, nI_clamp (by omega)]
      refine br_f (by decide) (br_c (fun z => s5_byteAt (f := f) (n := n) (i := i) hn hb hl (by omega) ?_) (fun z => ?_))
      · have z2 : nM f s (i - s) ≤ 999 := (nI_leI (b := 999) (by omega) (by decide)).mp z
        rw [eb]
        intro S23 e23 S24 e24
        subst e23; subst e24
        have ev : ((10 * (nI (nM f s (i - s)))) + f i) - 48 = nI (nM f s (i + 1 - s)) := by
          rw [en, if_pos z2, eb2, show 10 * nI (nM f s (i - s)) = nI (10 * nM f s (i - s)) from nI_mul 10 _, nI_add]
          exact nI_sub (b := 48) (by omega)
        show wX5_advance_207 post (c + 1) (mP N 2 (nI s) (nI i + 1) w (((10 * (nI (nM f s (i - s)))) + f i) - 48) g)
        rw [ev, ← nI_succ]
        exact ih (i + 1) (by omega) (by omega) h2 hd2
      · have z2 : ¬ nM f s (i - s) ≤ 999 := fun w2 => z (nI_le (b := 999) w2 (by decide))
        intro S25 e25 S26 e26
        subst e25; subst e26
        show wX5_advance_207 post (c + 1) (mP N 2 (nI s) (nI i + 1) w (nI 10000) g)
        rw [show (10000 : Nat) = nM f s (i + 1 - s) from by rw [en, if_neg z2], ← nI_succ]
        exact ih (i + 1) (by omega) (by omega) h2 hd2
set_option maxHeartbeats 800000 in
theorem s5_adv_207_no {post : MSt → Prop} {M : MSt} (c : ¬ m_sort M = 2) (h : post M) : ∃ k : Nat, wX5_advance_207 post k M := ⟨1, by rw [wX5_advance_207]; exact bn_f c h⟩
set_option maxHeartbeats 800000 in
theorem s5_adv_126 {post : MSt → Prop} {N : MSt} {s : Nat} {v g : Int32} (hn : n ≤ 120) (hb : m_tape N = f) (hl : m_tapeMany N = nI n) {e : Nat} (h : post (mP N 1 (nI s) (nI e) (hsh f s (e - s)) v g)) : ∀ (c i : Nat), i + c = n → s ≤ i → e = run bL f c i → wX5_advance_126 post (c + 1) (mP N 1 (nI s) (nI i) (hsh f s (i - s)) v g) := by
  intro c
  induction c with
  | zero =>
    intro i e0 h1 h2
    replace h2 : e = i := h2
    subst h2
    rw [wX5_advance_126]
    refine bn_t rfl (s5_byteAt (f := f) (n := n) (i := e) hn hb hl (by omega) (s5_isLetter ?_))
    have : bA f n e = -1 := if_neg (by omega)
    rw [this]
    exact br_t rfl (s5_adv_207_no (show ¬ (1 : Int32) = 2 by decide) h)
  | succ c ih =>
    intro i e0 h1 h2
    rw [wX5_advance_126]
    refine bn_t rfl (s5_byteAt (f := f) (n := n) (i := i) hn hb hl (by omega) (s5_isLetter ?_))
    have eb : bA f n i = f i := if_pos (by omega)
    rw [eb]
    rw [run] at h2
    cases q : bL (f i)
    · rw [q] at h2
      replace h2 : e = i := h2
      subst h2
      exact br_t rfl (s5_adv_207_no (show ¬ (1 : Int32) = 2 by decide) h)
    · rw [q] at h2
      have en : hsh f s (i + 1 - s) = if 12 ≤ i - s then -1 else ((27 * hsh f s (i - s)) + (Int32.toInt64 (f i))) - 96 := by
        rw [show i + 1 - s = (i - s) + 1 from by omega, hsh, show s + (i - s) = i from by omega]
      have ed : (nI i - nI s : Int32) = nI (i - s) := nI_sub (by omega)
      refine br_f (by decide) ?_
      show ((12 : Int32) ≤ (nI i - nI s) → _) ∧ (¬ (12 : Int32) ≤ (nI i - nI s) → _)
      rw [ed]
      refine br_c (fun z => ?_) (fun z => s5_byteAt (f := f) (n := n) (i := i) hn hb hl (by omega) ?_)
      · have z2 : 12 ≤ i - s := (nI_leI (a := 12) (by decide) (by omega)).mp z
        intro S33 e33 S34 e34
        subst e33; subst e34
        show wX5_advance_126 post (c + 1) (mP N 1 (nI s) (nI i + 1) (-1) v g)
        rw [show (-1 : Int64) = hsh f s (i + 1 - s) from by rw [en, if_pos z2], ← nI_succ]
        exact ih (i + 1) (by omega) (by omega) h2
      · have z2 : ¬ 12 ≤ i - s := fun w2 => z (nI_le (a := 12) w2 (by omega))
        rw [eb]
        intro S36 e36 S37 e37
        subst e36; subst e37
        show wX5_advance_126 post (c + 1) (mP N 1 (nI s) (nI i + 1) (((27 * hsh f s (i - s)) + (Int32.toInt64 (f i))) - 96) v g)
        rw [show ((27 * hsh f s (i - s)) + (Int32.toInt64 (f i))) - 96 = hsh f s (i + 1 - s) from by rw [en, if_neg z2], ← nI_succ]
        exact ih (i + 1) (by omega) (by omega) h2
set_option maxHeartbeats 800000 in
theorem s5_adv_126_no {post : MSt → Prop} {M : MSt} (c : ¬ m_sort M = 1) (h : ∃ k : Nat, wX5_advance_207 post k M) : ∃ k : Nat, wX5_advance_126 post k M := ⟨1, by rw [wX5_advance_126]; exact bn_f c h⟩
set_option maxHeartbeats 800000 in
theorem s5_adv_8 {post : MSt → Prop} {N : MSt} {a c0 : Int32} {w : Int64} {v g : Int32} (hn : n ≤ 120) (hb : m_tape N = f) (hl : m_tapeMany N = nI n) {p : Nat} (hp : p ≤ n) (hB : ∀ i, Rg 255 (f i)) (h : ∀ M', MA f n N M' p g → post M') : ∀ (c i : Nat), i + c = n → tS f n p = run bB f c i → wX5_advance_8 post (c + 1) (mP N a (nI i) c0 w v g) := by
  have q1 := tS_le (f := f) hp
  have fin : ∀ v5 : Int32, v5 = bA f n (tS f n p) → ((0 ≤ v5 → wX5_isLetter (fun v7 => (v7 = 0 → wX5_isDigit (fun v9 => (v9 = 0 → wX5_advance_83 post (mP N a (nI (tS f n p)) (nI (tS f n p)) w v g) v5 3) ∧ (¬ v9 = 0 → wX5_advance_83 post (mP N a (nI (tS f n p)) (nI (tS f n p)) w v g) v5 2)) v5) ∧ (¬ v7 = 0 → wX5_advance_83 post (mP N a (nI (tS f n p)) (nI (tS f n p)) w v g) v5 1)) v5) ∧ (¬ 0 ≤ v5 → wX5_advance_83 post (mP N a (nI (tS f n p)) (nI (tS f n p)) w v g) v5 0)) := by
    intro v5 e5
    by_cases c : n ≤ tS f n p
    · have ev : v5 = -1 := by rw [e5]; exact if_neg (by omega)
      have ek : tK f n p = 0 := by unfold tK; rw [if_pos c]
      have ee : tE f n p = tS f n p := by unfold tE; rw [if_pos c]
      subst ev
      refine br_f (by decide) ?_
      intro S11 e11 S12 e12
      subst e11; subst e12
      refine bn_f (show ¬ (0 : Int32) = 2 by decide) (fun S14 e14 => ?_)
      subst e14
      refine bn_f (show ¬ (0 : Int32) = 3 by decide) (s5_adv_126_no (show ¬ (0 : Int32) = 1 by decide) (s5_adv_207_no (show ¬ (0 : Int32) = 2 by decide) ?_))
      exact h _ ⟨0, nI (tS f n p), nI (tS f n p), 0, -1, rfl, rfl, by rw [ee], by rw [ek]; rfl, fun z => by omega, fun z => by omega, fun z => by omega, fun z => by omega⟩
    · have ev : v5 = f (tS f n p) := by rw [e5]; exact if_pos (by omega)
      subst ev
      have h0 : 0 ≤ f (tS f n p) := (hB (tS f n p)).nn (by decide)
      refine br_t h0 (s5_isLetter ?_)
      cases cl : bL (f (tS f n p))
      · refine br_t rfl (s5_isDigit ?_)
        cases cd : bD (f (tS f n p))
        · have ee : tE f n p = tS f n p + 1 := by unfold tE; rw [if_neg c, cl, cd]; rfl
          refine br_t rfl ?_
          intro S11 e11 S12 e12
          subst e11; subst e12
          refine bn_f (show ¬ (3 : Int32) = 2 by decide) (fun S14 e14 => ?_)
          subst e14
          refine bn_t (show (3 : Int32) = 3 from rfl) (fun S39 e39 => ?_)
          subst e39
          refine s5_adv_126_no (show ¬ (3 : Int32) = 1 by decide) (s5_adv_207_no (show ¬ (3 : Int32) = 2 by decide) ?_)
          by_cases c9 : f (tS f n p) = 59
          · have ek : tK f n p = 3 := by unfold tK; rw [if_neg c, cl, cd, if_pos c9]; rfl
            exact h _ ⟨3, nI (tS f n p), nI (tS f n p) + 1, 0, f (tS f n p), rfl, rfl, by rw [ee]; exact nI_1 _, by rw [ek]; rfl, fun z => by omega, fun z => by omega, fun _ => c9, fun z => by omega⟩
          · have ek : tK f n p = 4 := by unfold tK; rw [if_neg c, cl, cd, if_neg c9]; rfl
            exact h _ ⟨3, nI (tS f n p), nI (tS f n p) + 1, 0, f (tS f n p), rfl, rfl, by rw [ee]; exact nI_1 _, by rw [ek]; rfl, fun z => by omega, fun z => by omega, fun z => by omega, fun _ => c9⟩
        · have ek : tK f n p = 2 := by unfold tK; rw [if_neg c, cl, cd]; rfl
          have ee : tE f n p = run bD f (n - tS f n p) (tS f n p) := by unfold tE; rw [if_neg c, cl, cd]; rfl
          have ev : tV f n p = nX f (tS f n p) (tE f n p - tS f n p) := by unfold tV; rw [if_neg (by omega)]
          refine br_f (by decide) ?_
          intro S11 e11 S12 e12
          subst e11; subst e12
          refine bn_t (show (2 : Int32) = 2 from rfl) (fun S41 e41 => ?_)
          subst e41
          refine bn_f (show ¬ (2 : Int32) = 3 by decide) (s5_adv_126_no (show ¬ (2 : Int32) = 1 by decide) ⟨n - tS f n p + 1, ?_⟩)
          have e0 : nM f (tS f n p) (tS f n p - tS f n p) = 0 := by rw [Nat.sub_self]; rfl
          have hh := s5_adv_207 (f := f) (n := n) (N := N) (post := post) (s := tS f n p) (w := 0) (g := g) (e := tE f n p) hn hb hl hB ?_ (n - tS f n p) (tS f n p) (by omega) (Nat.le_refl _) ee (fun j hj => by omega)
          · rw [e0] at hh
            exact hh
          · have hx := nXM (f := f) (s := tS f n p) hB (tE f n p - tS f n p) (fun j hj => by
              rw [ee] at hj
              exact run_all (n - tS f n p) (tS f n p) (tS f n p + j) (by omega) (by omega))
            refine h _ ⟨2, nI (tS f n p), nI (tE f n p), 0, nI (nM f (tS f n p) (tE f n p - tS f n p)), rfl, rfl, rfl, by rw [ek]; rfl, fun z => by omega, fun _ => ⟨fun z => ?_, fun z => ?_⟩, fun z => by omega, fun z => by omega⟩
            · rw [ev] at z ⊢
              rw [hx.1 z]
            · rw [ev] at z
              exact nI_le (hx.2.1 z) (by omega)
      · have ek : tK f n p = 1 := by unfold tK; rw [if_neg c, cl]; rfl
        have ee : tE f n p = run bL f (n - tS f n p) (tS f n p) := by unfold tE; rw [if_neg c, cl]; rfl
        refine br_f (by decide) ?_
        intro S11 e11 S12 e12
        subst e11; subst e12
        refine bn_f (show ¬ (1 : Int32) = 2 by decide) (fun S14 e14 => ?_)
        subst e14
        refine bn_f (show ¬ (1 : Int32) = 3 by decide) ⟨n - tS f n p + 1, ?_⟩
        have e0 : hsh f (tS f n p) (tS f n p - tS f n p) = 0 := by rw [Nat.sub_self]; rfl
        have hh := s5_adv_126 (f := f) (n := n) (N := N) (post := post) (s := tS f n p) (v := f (tS f n p)) (g := g) (e := tE f n p) hn hb hl ?_ (n - tS f n p) (tS f n p) (by omega) (Nat.le_refl _) ee
        · rw [e0] at hh
          exact hh
        · exact h _ ⟨1, nI (tS f n p), nI (tE f n p), hsh f (tS f n p) (tE f n p - tS f n p), f (tS f n p), rfl, rfl, rfl, by rw [ek]; rfl, fun _ => rfl, fun z => by omega, fun z => by omega, fun z => by omega⟩
  have stop : ∀ i, tS f n p = i → ∀ S4 : MSt, S4 = m_tokenEnds_s (mP N a (nI i) c0 w v g) (m_begins (mP N a (nI i) c0 w v g)) → wX5_byteAt (fun v5 => (0 ≤ v5 → wX5_isLetter (fun v7 => (v7 = 0 → wX5_isDigit (fun v9 => (v9 = 0 → wX5_advance_83 post S4 v5 3) ∧ (¬ v9 = 0 → wX5_advance_83 post S4 v5 2)) v5) ∧ (¬ v7 = 0 → wX5_advance_83 post S4 v5 1)) v5) ∧ (¬ 0 ≤ v5 → wX5_advance_83 post S4 v5 0)) S4 (m_begins S4) := by
    intro i ei S4 e4
    subst e4
    subst ei
    exact s5_byteAt (f := f) (n := n) (i := tS f n p) hn hb hl (by omega) (fin _ rfl)
  intro c
  induction c with
  | zero =>
    intro i e0 h2
    replace h2 : tS f n p = i := h2
    rw [wX5_advance_8]
    refine s5_byteAt (f := f) (n := n) (i := i) hn hb hl (by omega) ?_
    have : bA f n i = -1 := if_neg (by omega)
    rw [this]
    exact bn_f (by decide) (stop i h2)
  | succ c ih =>
    intro i e0 h2
    rw [wX5_advance_8]
    refine s5_byteAt (f := f) (n := n) (i := i) hn hb hl (by omega) ?_
    have eb : bA f n i = f i := if_pos (by omega)
    rw [eb]
    rw [run] at h2
    refine ⟨fun q => ?_, fun q S46 e46 => ?_⟩
    · rw [if_neg (by simp [bB, q])] at h2
      exact stop i h2
    · rw [if_pos (by simp [bB, q])] at h2
      subst e46
      show wX5_advance_8 post (c + 1) (mP N a (nI i + 1) c0 w v g)
      rw [← nI_succ]
      exact ih (i + 1) (by omega) h2
set_option maxHeartbeats 800000 in
theorem s5_advance {post : MSt → Prop} {N : MSt} {a b : Int32} {w : Int64} {v g : Int32} (hn : n ≤ 120) (hb : m_tape N = f) (hl : m_tapeMany N = nI n) {p : Nat} (hp : p ≤ n) (hB : ∀ i, Rg 255 (f i)) (h : ∀ M', MA f n N M' p g → post M') : wX5_advance post (mP N a b (nI p) w v g) := by
  intro S1 e1
  subst e1
  exact ⟨n - p + 1, s5_adv_8 (f := f) (n := n) (N := N) (a := a) (c0 := nI p) (w := w) (v := v) hn hb hl hp hB h (n - p) p (by omega) rfl⟩
end TokM
