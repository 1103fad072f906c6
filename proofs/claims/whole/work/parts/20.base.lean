/-! THE PURE SIDE: numbers in ranges, houses out of rows, loops -/
def Rg (n : Nat) (x : Int32) : Prop := ∃ j : Nat, j ≤ n ∧ x = nI j
theorem Rg0 {n : Nat} : Rg n 0 := ⟨0, Nat.zero_le _, rfl⟩
theorem Rg.up {n k : Nat} {x : Int32} (h : Rg n x) (hk : n ≤ k) : Rg k x := by
  obtain ⟨j, hj, e⟩ := h
  exact ⟨j, by omega, e⟩
theorem Rg.of {n : Nat} {x : Int32} (hn : n < 2 ^ 31) (h0 : 0 ≤ x) (h1 : x ≤ nI n) : Rg n x :=
  nI_of2 (M := nI n) (nI_toInt hn) (Int32.not_lt.mpr h0) h1
theorem Rg.nn {n : Nat} {x : Int32} (hn : n < 2 ^ 31) (h : Rg n x) : 0 ≤ x := by
  obtain ⟨j, hj, rfl⟩ := h
  exact nI_pos' (by omega)
theorem Rg.le {n : Nat} {x : Int32} (hn : n < 2 ^ 31) (h : Rg n x) : x ≤ nI n := by
  obtain ⟨j, hj, rfl⟩ := h
  exact nI_le hj hn
def itN {α : Type} (f : Nat → α → α) : Nat → Nat → α → α
  | 0, _, a => a
  | c + 1, i, a => itN f c (i + 1) (f i a)
theorem nI_mul (a b : Nat) : nI a * nI b = nI (a * b) := (Int32.ofNat_mul a b).symm
theorem nI_sub {a b : Nat} (h : b ≤ a) : nI a - nI b = nI (a - b) := by
  have e : nI (a - b) + nI b = nI a := by rw [nI_add]; congr 1; omega
  rw [← e, Int32.add_sub_cancel]
theorem bn_t {c A B : Prop} (h : c) (k : B) : (¬ c → A) ∧ (c → B) := ⟨fun q => absurd h q, fun _ => k⟩
theorem bn_f {c A B : Prop} (h : ¬ c) (k : A) : (¬ c → A) ∧ (c → B) := ⟨fun _ => k, fun q => absurd q h⟩
theorem upd_eq {f : Nat → Int32} {k : Nat} {x : Int32} : upd f k x k = x := if_pos rfl
theorem upd_ne {f : Nat → Int32} {k j : Nat} {x : Int32} (h : j ≠ k) : upd f k x j = f j := if_neg h
theorem upd_all {P : Int32 → Prop} {f : Nat → Int32} {k : Nat} {x : Int32} (hf : ∀ i, P (f i)) (hx : P x) : ∀ i, P (upd f k x i) := by
  intro i
  unfold upd
  split
  · exact hx
  · exact hf i
theorem upd_z {f : Nat → Int32} {k : Nat} {x : Int32} (hk : k < 8) (hf : ∀ i, 8 ≤ i → f i = 0) : ∀ i, 8 ≤ i → upd f k x i = 0 := by
  intro i hi
  rw [upd_ne (by omega)]
  exact hf i hi
/-- the house that a row of the reference tells -/
def rowH (r : Nat → Int32) : HSt := (fun i => if i < 8 then r (3 + 2 * i) else 0, fun i => if i < 8 then r (4 + 2 * i) else 0, fun i => if i < 8 then r (19 + 4 * i) else 0, fun i => if i < 8 then r (20 + 4 * i) else 0, fun i => if i < 8 then r (21 + 4 * i) else 0, fun i => if i < 8 then r (22 + 4 * i) else 0, r 0, r 1, r 2)
theorem rowH_dust {r : Nat → Int32} {i : Nat} (h : i < 8) : r (3 + 2 * i) = h_dust (rowH r) i := (if_pos h).symm
theorem rowH_memories {r : Nat → Int32} {i : Nat} (h : i < 8) : r (4 + 2 * i) = h_memories (rowH r) i := (if_pos h).symm
theorem rowH_kinds {r : Nat → Int32} {i : Nat} (h : i < 8) : r (19 + 4 * i) = h_kinds (rowH r) i := (if_pos h).symm
theorem rowH_held {r : Nat → Int32} {i : Nat} (h : i < 8) : r (20 + 4 * i) = h_held (rowH r) i := (if_pos h).symm
theorem rowH_grimes {r : Nat → Int32} {i : Nat} (h : i < 8) : r (21 + 4 * i) = h_grimes (rowH r) i := (if_pos h).symm
theorem rowH_rounds {r : Nat → Int32} {i : Nat} (h : i < 8) : r (22 + 4 * i) = h_rounds (rowH r) i := (if_pos h).symm
theorem rowH_ext {r : Nat → Int32} {H : HSt} (h1 : ∀ i, (if i < 8 then r (3 + 2 * i) else 0) = h_dust H i) (h2 : ∀ i, (if i < 8 then r (4 + 2 * i) else 0) = h_memories H i) (h3 : ∀ i, (if i < 8 then r (19 + 4 * i) else 0) = h_kinds H i) (h4 : ∀ i, (if i < 8 then r (20 + 4 * i) else 0) = h_held H i) (h5 : ∀ i, (if i < 8 then r (21 + 4 * i) else 0) = h_grimes H i) (h6 : ∀ i, (if i < 8 then r (22 + 4 * i) else 0) = h_rounds H i) (h7 : r 0 = h_day H) (h8 : r 1 = h_fall H) (h9 : r 2 = h_dusters H) : rowH r = H :=
  Prod.ext (funext h1) (Prod.ext (funext h2) (Prod.ext (funext h3) (Prod.ext (funext h4) (Prod.ext (funext h5) (Prod.ext (funext h6) (Prod.ext h7 (Prod.ext h8 h9)))))))
theorem rowU_dust {r : Nat → Int32} {k : Nat} {v : Int32} (hk : k < 8) : rowH (upd r (3 + 2 * k) v) = h_dust_s (rowH r) (upd (h_dust (rowH r)) k v) := by
  refine rowH_ext ?_ ?_ ?_ ?_ ?_ ?_ ?_ ?_ ?_
  · intro i
    show (if i < 8 then upd r (3 + 2 * k) v (3 + 2 * i) else 0) = upd (h_dust (rowH r)) k v i
    by_cases e : i = k
    · rw [e, if_pos hk, upd_eq, upd_eq]
    · rw [upd_ne (by omega), upd_ne e]; rfl
  · intro i
    show (if i < 8 then upd r (3 + 2 * k) v (4 + 2 * i) else 0) = (if i < 8 then r (4 + 2 * i) else 0)
    by_cases e : i < 8
    · rw [if_pos e, if_pos e, upd_ne (by omega)]
    · rw [if_neg e, if_neg e]
  · intro i
    show (if i < 8 then upd r (3 + 2 * k) v (19 + 4 * i) else 0) = (if i < 8 then r (19 + 4 * i) else 0)
    by_cases e : i < 8
    · rw [if_pos e, if_pos e, upd_ne (by omega)]
    · rw [if_neg e, if_neg e]
  · intro i
    show (if i < 8 then upd r (3 + 2 * k) v (20 + 4 * i) else 0) = (if i < 8 then r (20 + 4 * i) else 0)
    by_cases e : i < 8
    · rw [if_pos e, if_pos e, upd_ne (by omega)]
    · rw [if_neg e, if_neg e]
  · intro i
    show (if i < 8 then upd r (3 + 2 * k) v (21 + 4 * i) else 0) = (if i < 8 then r (21 + 4 * i) else 0)
    by_cases e : i < 8
    · rw [if_pos e, if_pos e, upd_ne (by omega)]
    · rw [if_neg e, if_neg e]
  · intro i
    show (if i < 8 then upd r (3 + 2 * k) v (22 + 4 * i) else 0) = (if i < 8 then r (22 + 4 * i) else 0)
    by_cases e : i < 8
    · rw [if_pos e, if_pos e, upd_ne (by omega)]
    · rw [if_neg e, if_neg e]
  · exact upd_ne (by omega)
  · exact upd_ne (by omega)
  · exact upd_ne (by omega)
theorem rowU_memories {r : Nat → Int32} {k : Nat} {v : Int32} (hk : k < 8) : rowH (upd r (4 + 2 * k) v) = h_memories_s (rowH r) (upd (h_memories (rowH r)) k v) := by
  refine rowH_ext ?_ ?_ ?_ ?_ ?_ ?_ ?_ ?_ ?_
  · intro i
    show (if i < 8 then upd r (4 + 2 * k) v (3 + 2 * i) else 0) = (if i < 8 then r (3 + 2 * i) else 0)
    by_cases e : i < 8
    · rw [if_pos e, if_pos e, upd_ne (by omega)]
    · rw [if_neg e, if_neg e]
  · intro i
    show (if i < 8 then upd r (4 + 2 * k) v (4 + 2 * i) else 0) = upd (h_memories (rowH r)) k v i
    by_cases e : i = k
    · rw [e, if_pos hk, upd_eq, upd_eq]
    · rw [upd_ne (by omega), upd_ne e]; rfl
  · intro i
    show (if i < 8 then upd r (4 + 2 * k) v (19 + 4 * i) else 0) = (if i < 8 then r (19 + 4 * i) else 0)
    by_cases e : i < 8
    · rw [if_pos e, if_pos e, upd_ne (by omega)]
    · rw [if_neg e, if_neg e]
  · intro i
    show (if i < 8 then upd r (4 + 2 * k) v (20 + 4 * i) else 0) = (if i < 8 then r (20 + 4 * i) else 0)
    by_cases e : i < 8
    · rw [if_pos e, if_pos e, upd_ne (by omega)]
    · rw [if_neg e, if_neg e]
  · intro i
    show (if i < 8 then upd r (4 + 2 * k) v (21 + 4 * i) else 0) = (if i < 8 then r (21 + 4 * i) else 0)
    by_cases e : i < 8
    · rw [if_pos e, if_pos e, upd_ne (by omega)]
    · rw [if_neg e, if_neg e]
  · intro i
    show (if i < 8 then upd r (4 + 2 * k) v (22 + 4 * i) else 0) = (if i < 8 then r (22 + 4 * i) else 0)
    by_cases e : i < 8
    · rw [if_pos e, if_pos e, upd_ne (by omega)]
    · rw [if_neg e, if_neg e]
  · exact upd_ne (by omega)
  · exact upd_ne (by omega)
  · exact upd_ne (by omega)
theorem rowU_kinds {r : Nat → Int32} {k : Nat} {v : Int32} (hk : k < 8) : rowH (upd r (19 + 4 * k) v) = h_kinds_s (rowH r) (upd (h_kinds (rowH r)) k v) := by
  refine rowH_ext ?_ ?_ ?_ ?_ ?_ ?_ ?_ ?_ ?_
  · intro i
    show (if i < 8 then upd r (19 + 4 * k) v (3 + 2 * i) else 0) = (if i < 8 then r (3 + 2 * i) else 0)
    by_cases e : i < 8
    · rw [if_pos e, if_pos e, upd_ne (by omega)]
    · rw [if_neg e, if_neg e]
  · intro i
    show (if i < 8 then upd r (19 + 4 * k) v (4 + 2 * i) else 0) = (if i < 8 then r (4 + 2 * i) else 0)
    by_cases e : i < 8
    · rw [if_pos e, if_pos e, upd_ne (by omega)]
    · rw [if_neg e, if_neg e]
  · intro i
    show (if i < 8 then upd r (19 + 4 * k) v (19 + 4 * i) else 0) = upd (h_kinds (rowH r)) k v i
    by_cases e : i = k
    · rw [e, if_pos hk, upd_eq, upd_eq]
    · rw [upd_ne (by omega), upd_ne e]; rfl
  · intro i
    show (if i < 8 then upd r (19 + 4 * k) v (20 + 4 * i) else 0) = (if i < 8 then r (20 + 4 * i) else 0)
    by_cases e : i < 8
    · rw [if_pos e, if_pos e, upd_ne (by omega)]
    · rw [if_neg e, if_neg e]
  · intro i
    show (if i < 8 then upd r (19 + 4 * k) v (21 + 4 * i) else 0) = (if i < 8 then r (21 + 4 * i) else 0)
    by_cases e : i < 8
    · rw [if_pos e, if_pos e, upd_ne (by omega)]
    · rw [if_neg e, if_neg e]
  · intro i
    show (if i < 8 then upd r (19 + 4 * k) v (22 + 4 * i) else 0) = (if i < 8 then r (22 + 4 * i) else 0)
    by_cases e : i < 8
    · rw [if_pos e, if_pos e, upd_ne (by omega)]
    · rw [if_neg e, if_neg e]
  · exact upd_ne (by omega)
  · exact upd_ne (by omega)
  · exact upd_ne (by omega)
theorem rowU_held {r : Nat → Int32} {k : Nat} {v : Int32} (hk : k < 8) : rowH (upd r (20 + 4 * k) v) = h_held_s (rowH r) (upd (h_held (rowH r)) k v) := by
  refine rowH_ext ?_ ?_ ?_ ?_ ?_ ?_ ?_ ?_ ?_
  · intro i
    show (if i < 8 then upd r (20 + 4 * k) v (3 + 2 * i) else 0) = (if i < 8 then r (3 + 2 * i) else 0)
    by_cases e : i < 8
    · rw [if_pos e, if_pos e, upd_ne (by omega)]
    · rw [if_neg e, if_neg e]
  · intro i
    show (if i < 8 then upd r (20 + 4 * k) v (4 + 2 * i) else 0) = (if i < 8 then r (4 + 2 * i) else 0)
    by_cases e : i < 8
    · rw [if_pos e, if_pos e, upd_ne (by omega)]
    · rw [if_neg e, if_neg e]
  · intro i
    show (if i < 8 then upd r (20 + 4 * k) v (19 + 4 * i) else 0) = (if i < 8 then r (19 + 4 * i) else 0)
    by_cases e : i < 8
    · rw [if_pos e, if_pos e, upd_ne (by omega)]
    · rw [if_neg e, if_neg e]
  · intro i
    show (if i < 8 then upd r (20 + 4 * k) v (20 + 4 * i) else 0) = upd (h_held (rowH r)) k v i
    by_cases e : i = k
    · rw [e, if_pos hk, upd_eq, upd_eq]
    · rw [upd_ne (by omega), upd_ne e]; rfl
  · intro i
    show (if i < 8 then upd r (20 + 4 * k) v (21 + 4 * i) else 0) = (if i < 8 then r (21 + 4 * i) else 0)
    by_cases e : i < 8
    · rw [if_pos e, if_pos e, upd_ne (by omega)]
    · rw [if_neg e, if_neg e]
  · intro i
    show (if i < 8 then upd r (20 + 4 * k) v (22 + 4 * i) else 0) = (if i < 8 then r (22 + 4 * i) else 0)
    by_cases e : i < 8
    · rw [if_pos e, if_pos e, upd_ne (by omega)]
    · rw [if_neg e, if_neg e]
  · exact upd_ne (by omega)
  · exact upd_ne (by omega)
  · exact upd_ne (by omega)
theorem rowU_grimes {r : Nat → Int32} {k : Nat} {v : Int32} (hk : k < 8) : rowH (upd r (21 + 4 * k) v) = h_grimes_s (rowH r) (upd (h_grimes (rowH r)) k v) := by
  refine rowH_ext ?_ ?_ ?_ ?_ ?_ ?_ ?_ ?_ ?_
  · intro i
    show (if i < 8 then upd r (21 + 4 * k) v (3 + 2 * i) else 0) = (if i < 8 then r (3 + 2 * i) else 0)
    by_cases e : i < 8
    · rw [if_pos e, if_pos e, upd_ne (by omega)]
    · rw [if_neg e, if_neg e]
  · intro i
    show (if i < 8 then upd r (21 + 4 * k) v (4 + 2 * i) else 0) = (if i < 8 then r (4 + 2 * i) else 0)
    by_cases e : i < 8
    · rw [if_pos e, if_pos e, upd_ne (by omega)]
    · rw [if_neg e, if_neg e]
  · intro i
    show (if i < 8 then upd r (21 + 4 * k) v (19 + 4 * i) else 0) = (if i < 8 then r (19 + 4 * i) else 0)
    by_cases e : i < 8
    · rw [if_pos e, if_pos e, upd_ne (by omega)]
    · rw [if_neg e, if_neg e]
  · intro i
    show (if i < 8 then upd r (21 + 4 * k) v (20 + 4 * i) else 0) = (if i < 8 then r (20 + 4 * i) else 0)
    by_cases e : i < 8
    · rw [if_pos e, if_pos e, upd_ne (by omega)]
    · rw [if_neg e, if_neg e]
  · intro i
    show (if i < 8 then upd r (21 + 4 * k) v (21 + 4 * i) else 0) = upd (h_grimes (rowH r)) k v i
    by_cases e : i = k
    · rw [e, if_pos hk, upd_eq, upd_eq]
    · rw [upd_ne (by omega), upd_ne e]; rfl
  · intro i
    show (if i < 8 then upd r (21 + 4 * k) v (22 + 4 * i) else 0) = (if i < 8 then r (22 + 4 * i) else 0)
    by_cases e : i < 8
    · rw [if_pos e, if_pos e, upd_ne (by omega)]
    · rw [if_neg e, if_neg e]
  · exact upd_ne (by omega)
  · exact upd_ne (by omega)
  · exact upd_ne (by omega)
theorem rowU_rounds {r : Nat → Int32} {k : Nat} {v : Int32} (hk : k < 8) : rowH (upd r (22 + 4 * k) v) = h_rounds_s (rowH r) (upd (h_rounds (rowH r)) k v) := by
  refine rowH_ext ?_ ?_ ?_ ?_ ?_ ?_ ?_ ?_ ?_
  · intro i
    show (if i < 8 then upd r (22 + 4 * k) v (3 + 2 * i) else 0) = (if i < 8 then r (3 + 2 * i) else 0)
    by_cases e : i < 8
    · rw [if_pos e, if_pos e, upd_ne (by omega)]
    · rw [if_neg e, if_neg e]
  · intro i
    show (if i < 8 then upd r (22 + 4 * k) v (4 + 2 * i) else 0) = (if i < 8 then r (4 + 2 * i) else 0)
    by_cases e : i < 8
    · rw [if_pos e, if_pos e, upd_ne (by omega)]
    · rw [if_neg e, if_neg e]
  · intro i
    show (if i < 8 then upd r (22 + 4 * k) v (19 + 4 * i) else 0) = (if i < 8 then r (19 + 4 * i) else 0)
    by_cases e : i < 8
    · rw [if_pos e, if_pos e, upd_ne (by omega)]
    · rw [if_neg e, if_neg e]
  · intro i
    show (if i < 8 then upd r (22 + 4 * k) v (20 + 4 * i) else 0) = (if i < 8 then r (20 + 4 * i) else 0)
    by_cases e : i < 8
    · rw [if_pos e, if_pos e, upd_ne (by omega)]
    · rw [if_neg e, if_neg e]
  · intro i
    show (if i < 8 then upd r (22 + 4 * k) v (21 + 4 * i) else 0) = (if i < 8 then r (21 + 4 * i) else 0)
    by_cases e : i < 8
    · rw [if_pos e, if_pos e, upd_ne (by omega)]
    · rw [if_neg e, if_neg e]
  · intro i
    show (if i < 8 then upd r (22 + 4 * k) v (22 + 4 * i) else 0) = upd (h_rounds (rowH r)) k v i
    by_cases e : i = k
    · rw [e, if_pos hk, upd_eq, upd_eq]
    · rw [upd_ne (by omega), upd_ne e]; rfl
  · exact upd_ne (by omega)
  · exact upd_ne (by omega)
  · exact upd_ne (by omega)
theorem rowU_day {r : Nat → Int32} {v : Int32} : rowH (upd r 0 v) = h_day_s (rowH r) v := by
  refine rowH_ext ?_ ?_ ?_ ?_ ?_ ?_ ?_ ?_ ?_
  · intro i
    show (if i < 8 then upd r 0 v (3 + 2 * i) else 0) = (if i < 8 then r (3 + 2 * i) else 0)
    rw [upd_ne (by omega)]
  · intro i
    show (if i < 8 then upd r 0 v (4 + 2 * i) else 0) = (if i < 8 then r (4 + 2 * i) else 0)
    rw [upd_ne (by omega)]
  · intro i
    show (if i < 8 then upd r 0 v (19 + 4 * i) else 0) = (if i < 8 then r (19 + 4 * i) else 0)
    rw [upd_ne (by omega)]
  · intro i
    show (if i < 8 then upd r 0 v (20 + 4 * i) else 0) = (if i < 8 then r (20 + 4 * i) else 0)
    rw [upd_ne (by omega)]
  · intro i
    show (if i < 8 then upd r 0 v (21 + 4 * i) else 0) = (if i < 8 then r (21 + 4 * i) else 0)
    rw [upd_ne (by omega)]
  · intro i
    show (if i < 8 then upd r 0 v (22 + 4 * i) else 0) = (if i < 8 then r (22 + 4 * i) else 0)
    rw [upd_ne (by omega)]
  · exact upd_eq
  · exact upd_ne (by decide)
  · exact upd_ne (by decide)
theorem rowU_fall {r : Nat → Int32} {v : Int32} : rowH (upd r 1 v) = h_fall_s (rowH r) v := by
  refine rowH_ext ?_ ?_ ?_ ?_ ?_ ?_ ?_ ?_ ?_
  · intro i
    show (if i < 8 then upd r 1 v (3 + 2 * i) else 0) = (if i < 8 then r (3 + 2 * i) else 0)
    rw [upd_ne (by omega)]
  · intro i
    show (if i < 8 then upd r 1 v (4 + 2 * i) else 0) = (if i < 8 then r (4 + 2 * i) else 0)
    rw [upd_ne (by omega)]
  · intro i
    show (if i < 8 then upd r 1 v (19 + 4 * i) else 0) = (if i < 8 then r (19 + 4 * i) else 0)
    rw [upd_ne (by omega)]
  · intro i
    show (if i < 8 then upd r 1 v (20 + 4 * i) else 0) = (if i < 8 then r (20 + 4 * i) else 0)
    rw [upd_ne (by omega)]
  · intro i
    show (if i < 8 then upd r 1 v (21 + 4 * i) else 0) = (if i < 8 then r (21 + 4 * i) else 0)
    rw [upd_ne (by omega)]
  · intro i
    show (if i < 8 then upd r 1 v (22 + 4 * i) else 0) = (if i < 8 then r (22 + 4 * i) else 0)
    rw [upd_ne (by omega)]
  · exact upd_ne (by decide)
  · exact upd_eq
  · exact upd_ne (by decide)
theorem rowU_dusters {r : Nat → Int32} {v : Int32} : rowH (upd r 2 v) = h_dusters_s (rowH r) v := by
  refine rowH_ext ?_ ?_ ?_ ?_ ?_ ?_ ?_ ?_ ?_
  · intro i
    show (if i < 8 then upd r 2 v (3 + 2 * i) else 0) = (if i < 8 then r (3 + 2 * i) else 0)
    rw [upd_ne (by omega)]
  · intro i
    show (if i < 8 then upd r 2 v (4 + 2 * i) else 0) = (if i < 8 then r (4 + 2 * i) else 0)
    rw [upd_ne (by omega)]
  · intro i
    show (if i < 8 then upd r 2 v (19 + 4 * i) else 0) = (if i < 8 then r (19 + 4 * i) else 0)
    rw [upd_ne (by omega)]
  · intro i
    show (if i < 8 then upd r 2 v (20 + 4 * i) else 0) = (if i < 8 then r (20 + 4 * i) else 0)
    rw [upd_ne (by omega)]
  · intro i
    show (if i < 8 then upd r 2 v (21 + 4 * i) else 0) = (if i < 8 then r (21 + 4 * i) else 0)
    rw [upd_ne (by omega)]
  · intro i
    show (if i < 8 then upd r 2 v (22 + 4 * i) else 0) = (if i < 8 then r (22 + 4 * i) else 0)
    rw [upd_ne (by omega)]
  · exact upd_ne (by decide)
  · exact upd_ne (by decide)
  · exact upd_eq
