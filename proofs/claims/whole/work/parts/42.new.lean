/-! MAKING: rows that take room, and contracts of the constructors. -/
def zA (Γ : zz_X) (c k : Nat) : zz_X := (Γ.1, Γ.2.1, (Γ.2.2.1, Γ.2.2.2.1, Γ.2.2.2.2.1 + c, Γ.2.2.2.2.2 + k))
def zK (Γ : zz_X) (c k : Nat) : Prop := Γ.2.2.2.2.1 + c ≤ Γ.1.2.2.1.cells ∧ Γ.2.2.2.2.2 + k ≤ Γ.1.2.2.1.slots
def zI (Γ : zz_X) : Prop := Γ.2.1.2.2.2.1.name = "<init>"
def zJ (β : zz_B) (Γ : zz_X) (c k : Nat) (post : Option Value → va_W → Prop) : Prop :=
  match Γ with
  | ((_, _, _, s), (_, args, below, meth, _), (Q, A, nc, ns)) => Q = MQ below (zQ β.2 post A) args s (nc + c) (ns + k) A ∧ meth.sig.returnType = none
section ZNew
variable {β : zz_B} {n : Nat} {Γ : zz_X} {cc : ByteArray} {own : String} {fr lo : Nat} {ws : va_W} {pc : Nat} {lv : List (Nat × Value)} {rest : List Value} {c0 k0 c k : Nat} {post : Option Value → va_W → Prop}
theorem zK.step (h : zK Γ (c0 + c) (k0 + k)) : zK (zA Γ c0 k0) c k := by
  obtain ⟨⟨p, e, R, s⟩, ⟨m, args, below, meth, c9⟩, ⟨Q, A, nc, ns⟩⟩ := Γ
  obtain ⟨h1, h2⟩ := h
  have h1 : nc + (c0 + c) ≤ R.cells := h1
  have h2 : ns + (k0 + k) ≤ R.slots := h2
  exact ⟨show nc + c0 + c ≤ R.cells by omega, show ns + k0 + k ≤ R.slots by omega⟩
theorem zK.sub (h : zK Γ (c0 + c) (k0 + k)) : zK Γ c0 k0 := by
  obtain ⟨h1, h2⟩ := h
  exact ⟨by omega, by omega⟩
theorem zJ.step (h : zJ β Γ (c0 + c) (k0 + k) post) : zJ β (zA Γ c0 k0) c k post := by
  obtain ⟨⟨p, e, R, s⟩, ⟨m, args, below, meth, c9⟩, ⟨Q, A, nc, ns⟩⟩ := Γ
  obtain ⟨h1, h2⟩ := h
  refine ⟨?_, h2⟩
  show Q = MQ below (zQ β.2 post A) args s (nc + c0 + c) (ns + k0 + k) A
  rw [h1, Nat.add_assoc, Nat.add_assoc]
theorem zJ.done (h : zJ β Γ 0 0 post) : zR β Γ none post := by
  obtain ⟨⟨p, e, R, s⟩, ⟨m, args, below, meth, c9⟩, ⟨Q, A, nc, ns⟩⟩ := Γ
  exact h
theorem zG.more (g : zG β n Γ cc own fr lo) (h : zK Γ c0 k0) : zG β n (zA Γ c0 k0) cc own fr lo := by
  obtain ⟨⟨p, e, R, s⟩, ⟨m, args, below, meth, c9⟩, ⟨Q, A, nc, ns⟩⟩ := Γ
  obtain ⟨hx, hb, hml, hown, hts, hK, hlk, hA, hfl, -, hE⟩ := g
  exact ⟨hx, hb, hml, hown, hts, hK, hlk, hA, hfl, h, hE⟩
theorem zv_newI {N : Nat} {v : Int32} (ws2 : Nat → va_W) (g : zG β n Γ cc own fr lo) (hk : zK Γ 1 N) (hn : ¬ v < 0) (hN : v.toNatClampNeg = N) (hbytes : N * componentBytes .int ≤ 536870912) (hw : ∀ q : Nat, ws ++ [(q, .inl (β.2.2.1.1, N, .inl (fun _ => 0)))] = ws2 q) (hd : decode cc pc = .ok (.newarray .int, 2))
    (kk : ∀ q : Nat, zV β n (zA Γ 1 N) (ws2 q) (pc + 2) lv (.ref q :: rest)) : zV β n Γ ws pc lv (.int v :: rest) := by
  obtain ⟨⟨p, e, R, s⟩, ⟨m, args, below, meth, c9⟩, ⟨Q, A, nc, ns⟩⟩ := Γ
  obtain ⟨hx, hb, hml, hown, hts, hK, hlk, hA, ⟨hfr, hlo⟩, ⟨hnc, hns⟩, hE⟩ := g
  intro H locs ls hP hD hS hl
  refine va_newa (atype := .int) (D := β.2.1) (cl := vwCl) (tys := zz_tys β.2.2.1) (ws := ws) (a0 := (N, .inl (fun _ => 0))) hx hb (hts _ wd_134) (ty := .int) rfl hK hP hD hS hA (fun cA => vp_cell_i cA N _) hn hN hbytes hk.1 hk.2 hd (fun q cA H1 hK1 hP1 hD1 hS1 => ?_)
  have hc : cA = β.2.2.1.1 := Option.some.inj (((hK1.2 3 (cA, .int) rfl).2).symm.trans (hK.2 0 (β.2.2.1.1, .int) rfl).2)
  rw [hc, hw] at hP1 hD1
  exact kk q H1 locs ls hP1 hD1 hS1 hl
theorem zv_newJ {N : Nat} {v : Int32} (ws2 : Nat → va_W) (g : zG β n Γ cc own fr lo) (hk : zK Γ 1 N) (hn : ¬ v < 0) (hN : v.toNatClampNeg = N) (hbytes : N * componentBytes .long ≤ 536870912) (hw : ∀ q : Nat, ws ++ [(q, .inl (β.2.2.1.2.1, N, .inr (.inl (fun _ => 0))))] = ws2 q) (hd : decode cc pc = .ok (.newarray .long, 2))
    (kk : ∀ q : Nat, zV β n (zA Γ 1 N) (ws2 q) (pc + 2) lv (.ref q :: rest)) : zV β n Γ ws pc lv (.int v :: rest) := by
  obtain ⟨⟨p, e, R, s⟩, ⟨m, args, below, meth, c9⟩, ⟨Q, A, nc, ns⟩⟩ := Γ
  obtain ⟨hx, hb, hml, hown, hts, hK, hlk, hA, ⟨hfr, hlo⟩, ⟨hnc, hns⟩, hE⟩ := g
  intro H locs ls hP hD hS hl
  refine va_newa (atype := .long) (D := β.2.1) (cl := vwCl) (tys := zz_tys β.2.2.1) (ws := ws) (a0 := (N, .inr (.inl (fun _ => 0)))) hx hb (hts _ wd_184) (ty := .long) rfl hK hP hD hS hA (fun cA => vp_cell_l cA N _) hn hN hbytes hk.1 hk.2 hd (fun q cA H1 hK1 hP1 hD1 hS1 => ?_)
  have hc : cA = β.2.2.1.2.1 := Option.some.inj (((hK1.2 3 (cA, .long) rfl).2).symm.trans (hK.2 1 (β.2.2.1.2.1, .long) rfl).2)
  rw [hc, hw] at hP1 hD1
  exact kk q H1 locs ls hP1 hD1 hS1 hl
theorem zv_newS {N : Nat} {v : Int32} {i : Nat} (ws2 : Nat → va_W) (g : zG β n Γ cc own fr lo) (hk : zK Γ 1 N) (hn : ¬ v < 0) (hN : v.toNatClampNeg = N) (hbytes : N * 4 ≤ 536870912) (hcl : Cond.classLink own i "DusterRounds$Sheet" ∈ zT) (hw : ∀ q : Nat, ws ++ [(q, .inl (β.2.2.1.2.2, N, .inr (.inr (.inr (.inr (fun _ => none))))))] = ws2 q) (hd : decode cc pc = .ok (.anewarray i, 3))
    (kk : ∀ q : Nat, zV β n (zA Γ 1 N) (ws2 q) (pc + 3) lv (.ref q :: rest)) : zV β n Γ ws pc lv (.int v :: rest) := by
  obtain ⟨⟨p, e, R, s⟩, ⟨m, args, below, meth, c9⟩, ⟨Q, A, nc, ns⟩⟩ := Γ
  obtain ⟨hx, hb, hml, hown, hts, hK, hlk, hA, ⟨hfr, hlo⟩, ⟨hnc, hns⟩, hE⟩ := g
  intro H locs ls hP hD hS hl
  refine va_newq (D := β.2.1) (cl := vwCl) (tys := zz_tys β.2.2.1) (ws := ws) hx hb hown (hts _ hcl) hE.2.2.2.2.2.2 hK hP hD hS hA hn hN hbytes hk.1 hk.2 hd (fun q cA H1 hK1 hP1 hD1 hS1 => ?_)
  obtain ⟨_, _, -, -, -, e1⟩ := (hK1.2 3 (cA, .object "DusterRounds$Sheet") rfl).2
  obtain ⟨_, _, -, -, -, e2⟩ := (hK.2 2 (β.2.2.1.2.2, .object "DusterRounds$Sheet") rfl).2
  have hc : cA = β.2.2.1.2.2 := Option.some.inj (e1.symm.trans e2)
  rw [hc, hw] at hP1 hD1
  exact kk q H1 locs ls hP1 hD1 hS1 hl
theorem zv_newo {C : String} {T : u_T} {N ci i : Nat} {ty : Nat → FieldType} (fs : List Value) (ws2 : Nat → va_W) (g : zG β n Γ cc own fr lo) (hk : zK Γ 1 N) (hin : ∀ w ∈ u_ws C T N, w ∈ zT) (hty : ∀ k, k < N → parseFieldDescriptor (T k).2.2.1 = some (ty k)) (hc : vwCl[ci]? = some (C, T, N)) (hcl : Cond.classLink own i C ∈ zT) (hinst : Cond.instantiable C N ∈ zT) (hini : Cond.initialized C ∈ zT) (hfs : ∀ j, j < N → defaultValue (ty j) = vp_V fs j) (hw : ∀ q : Nat, ws ++ [(q, .inr (ci, fs))] = ws2 q) (hd : decode cc pc = .ok (.new i, 3))
    (kk : ∀ q : Nat, zV β n (zA Γ 1 N) (ws2 q) (pc + 3) lv (.ref q :: rest)) : zV β n Γ ws pc lv rest := by
  obtain ⟨⟨p, e, R, s⟩, ⟨m, args, below, meth, c9⟩, ⟨Q, A, nc, ns⟩⟩ := Γ
  obtain ⟨hx, hb, hml, hown, hts, hK, hlk, hA, ⟨hfr, hlo⟩, ⟨hnc, hns⟩, hE⟩ := g
  intro H locs ls hP hD hS hl
  refine va_new (D := β.2.1) (cl := vwCl) (tys := zz_tys β.2.2.1) (ws := ws) (fs := fs) hx hb hts hin ty hty hown (hts _ hcl) (hts _ hinst) (hts _ hini) hK hP hD hS hA hc hfs hk.1 hk.2 hd (fun q H1 hP1 hD1 hS1 => ?_)
  rw [hw] at hP1 hD1
  exact kk q H1 locs ls hP1 hD1 hS1 hl
def zz_FF (own : String) (i ci k : Nat) (C : String) (T : u_T) (N : Nat) (ty : Nat → FieldType) : Prop := zz_FL own i ci k C T N ∧ (∀ k, k < N → parseFieldDescriptor (T k).2.2.1 = some (ty k)) ∧ (∀ a, a < N → ∀ b, b < N → a ≠ b → (T a).2.1 ≠ (T b).2.1) ∧ (T k).2.2.2 = true ∧ (T k).1 = own
theorem zv_putF {C : String} {T : u_T} {N i ci k a : Nat} {ty : Nat → FieldType} {fs : List Value} {v : Value} (ws2 : va_W) (g : zG β n Γ cc own fr lo) (hI : zI Γ) (hF : zz_FF own i ci k C T N ty) (q : Nat) (he : ws[q]? = some (a, .inr (ci, fs))) (hn : narrow (ty k) v = v) (hfit : fits (ty k) v = true) (hl0 : k < fs.length) (hw : ws.set q (a, .inr (ci, fs.set k v)) = ws2) (hd : decode cc pc = .ok (.putfield i, 3)) (kk : zV β n Γ ws2 (pc + 3) lv rest) : zV β n Γ ws pc lv (v :: .ref a :: rest) := by
  obtain ⟨⟨p, e, R, s⟩, ⟨m, args, below, meth, c9⟩, ⟨Q, A, nc, ns⟩⟩ := Γ
  obtain ⟨hx, hb, hml, hown, hts, hK, hlk, hA, ⟨hfr, hlo⟩, ⟨hnc, hns⟩, hE⟩ := g
  intro H locs ls hP hD hS hl
  exact va_putF (D := β.2.1) (cl := vwCl) hx hb hts hF.1.1 ty hF.2.1 hF.2.2.1 hown hK hP hD hS q he hF.1.2.1 k hF.1.2.2.1 (hts _ hF.1.2.2.2) (fun _ h9 => h9) hF.2.2.2.1 hI hF.2.2.2.2 (hF.2.1 k hF.1.2.2.1) hn hfit hl0 hd (fun H1 locs1 hP1 hD1 hS1 => kk H1 locs1 ls (hw ▸ hP1) (hw ▸ hD1) hS1 hl)
theorem zv_obj {i a : Nat} (g : zG β n Γ cc own fr lo) (hw : Cond.methodLink own i Lib.objectInit ∈ zT) (hfr1 : 1 ≤ fr) (hlo1 : 20 ≤ lo) (hrs : (rest.map fun v => v.category).sum ≤ 8) (hd : decode cc pc = .ok (.invokespecial i, 3)) (kk : zV β n Γ ws (pc + 3) lv rest) : zV β n Γ ws pc lv (.ref a :: rest) := by
  obtain ⟨⟨p, e, R, s⟩, ⟨m, args, below, meth, c9⟩, ⟨Q, A, nc, ns⟩⟩ := Γ
  obtain ⟨hx, hb, hml, hown, hts, hK, hlk, hA, ⟨hfr, hlo⟩, ⟨hnc, hns⟩, hE⟩ := g
  intro H locs ls hP hD hS hl
  refine W.objInit (a := a) (rest := rest) hx hb hown (hts _ hw) (hts _ wd_83) (hts _ wd_84) rfl (by rw [hml]; exact hl.1) rfl hd (Nat.le_trans hfr1 hfr) (by
    refine Nat.le_trans ?_ (Nat.le_trans hlo1 hlo)
    exact Nat.add_le_add_right (lv_room hrs) 12) ?_
  exact kk H locs ls hP hD hS hl
def zrn (fr lo mc ms : Nat) : Room := { frames := fr, cells := mc, slots := ms, locals := lo }
def zCn (β : zz_B) (y : MethodName) (b : ByteArray) (n : Nat) (fr lo mc ms : Nat) (av : List Value) (ws : va_W) (post : Option Value → va_W → Prop) : Prop :=
  ∀ sz, Met β.1 y (.code y b n none :: zT) (zrn fr lo mc ms) (zPc β.2 av ws sz) (zQ β.2 post (va_A ws sz)) mc ms (va_A ws sz)
theorem zCn.of {y : MethodName} {b : ByteArray} {mc ms : Nat} {av : List Value} (hy : plainName y.cls = true) (hyn : y.name = "<init>") (hn : (lg_sl av).length ≤ n)
    (body : ∀ Γ, zG β n Γ b y.cls fr lo → zK Γ mc ms → zJ β Γ mc ms post → zI Γ → zV β n Γ ws 0 (lv_args 0 av) []) : zCn β y b n fr lo mc ms av ws post := by
  intro sz
  refine Met.ofW (cc := b) (maxL := n) (ret := none) hy rfl ?_
  intro p e s m args below meth c s₁ B hml hv
  obtain ⟨rfl, hsz, hP, hK, hD0, hE⟩ := hv
  subst hsz
  have hts := atoms_spec (ws := .code y b n none :: zT) B.pre
  have hown : s.vm.findClass y.cls = some m.cls := findClass_of_methodNamed B.named
  have hin : meth.name = "<init>" := (name_of_methodNamed B.named B.method).1.trans hyn
  have hD := hD0.self (sz := s.heap.size)
  have hl := lv_entry av (n := n) hn
  rw [lg_entry_eq]
  exact body ((p, e, zrn fr lo mc ms, s), (m, av.toArray, below, meth, c), (MQ below (zQ β.2 post (va_A ws s.heap.size)) av.toArray s mc ms (va_A ws s.heap.size), va_A ws s.heap.size, 0, 0))
    ⟨B.exec, B.bytes, hml, hown, fun w h => hts w (List.mem_cons_of_mem _ h), hK, B.notSynchronized, fun q h => Or.inr h, ⟨Nat.le_refl _, Nat.le_refl _⟩, ⟨Nat.zero_le _, Nat.zero_le _⟩, hE⟩ ⟨by show 0 + mc ≤ mc; omega, by show 0 + ms ≤ ms; omega⟩ ⟨by rw [Nat.zero_add, Nat.zero_add], B.returns⟩ hin s.heap [] _ hP hD va_S.rf hl
theorem zz_backN {z : zz_Z} {A : Nat → Prop} {p : Program} {l : Launch} {e : Env} {R : Room} {s : State} {m : MethodId} {args : Array Value} {below : List Frame} {meth : Method} {c : Code} {H : Heap} {locs : List Loc} {nc ns mc ms : Nat} {Q : State → Prop} {ls : Array Slot} {st : List Value} {a : Array Value} {wc suf : va_W} (hz : β = (l, z))
    (hr : va_Run p l e R s m args below meth c H locs nc ns mc ms (F0 m pc ls st) rest (zQ z post (va_A wc H.size) a) (va_A wc H.size)) (hP : va_P z.1 vwCl (wc ++ suf) H) (hD : va_D A (wc ++ suf)) (hS : va_S A s.heap H locs) (hA : ∀ q, s.heap.size ≤ q → A q) (hl : lv_has ls n lv)
    (kk : ∀ (r : Option Value) (w : va_W), post r w → zV β n ((p, e, R, s), (m, args, below, meth, c), (Q, A, nc + mc, ns + ms)) (w ++ suf) (pc + 3) lv (r.toList ++ rest)) : W p l e R s m args below meth c H locs nc ns Q (F0 m pc ls st) := by
  subst hz
  intro T hT X
  obtain ⟨v, st₀, t, T', L, h0, X', hL, e1, e2, ⟨⟨r, w, hv, hp, hP1, hD1⟩, hzz, hk⟩, stp⟩ := hr T hT X
  cases hv
  rw [h0] at hzz hk
  have hF := zz_freeA hD hS hA
  obtain ⟨hP2, hD2⟩ := zz_frame (H1 := T'.heap) hP hD (fun q h1 h2 => by rw [e1]; exact hk q h1 h2) hF (by rw [e1]; exact hP1) hD1
  obtain ⟨t2, a1, b1⟩ := kk v w hp T'.heap (locs ++ L) ls hP2 hD2
    ⟨Nat.le_trans hS.1 (by rw [e1]; exact hzz), fun q h1 h2 => by rw [e1, hk q (Nat.lt_of_lt_of_le h1 hS.1) (fun z => h2 (hF q z))]; exact hS.2.1 q h1 h2, fun q hq => by
      rcases List.mem_append.mp hq with h | h
      · exact hS.2.2 q h
      · exact hF _ (hL q h)⟩ hl T' rfl X'
  exact ⟨t2, stp t2 a1, b1⟩
theorem zz_callN {i : Nat} {y : MethodName} {b : ByteArray} {nl np : Nat} {R : Room} {s : State} {args : Array Value} {fr2 lo2 mc ms : Nat} (hts : ∀ w ∈ zT, w.before args s = true) (h : zz_CB own i y b nl none np) (hfr : fr2 + 1 ≤ R.frames) (hlo : 8 + (nl + 11) + lo2 ≤ R.locals) : CallB R s args own i y b nl none (.code y b nl none :: zT) (zrn fr2 lo2 mc ms) mc ms np :=
  callB_of (Ts := zT) np hts (fun w hw => by
    rcases List.mem_cons.mp hw with rfl | hw
    · exact ⟨h.2.2.1, zT_good h.2.2.1⟩
    · exact ⟨hw, zT_good hw⟩) rfl rfl rfl (hts _ h.2.1) (hts _ h.1) h.2.2.2 ⟨hfr, hlo⟩
/-! a constructor's call: the world's cells mid (in front), what it makes in mid's place -/
theorem zv_cI {i : Nat} {y : MethodName} {b : ByteArray} {nl fr2 lo2 mc ms b0 : Nat} {wc suf : va_W} {P : va_W → Prop} (g : zG β n Γ cc own fr lo) (hk : zK Γ mc ms) (hw : zz_CB own i y b nl none 0) (him : Cond.instanceMethod y ∈ zT) (hyn : y.name = "<init>") (hc : zCn β y b nl fr2 lo2 mc ms [.ref b0] wc (fun r w => r = none ∧ P w)) (hfr : fr2 + 1 ≤ fr) (hlo : 8 + (nl + 11) + lo2 ≤ lo) (hp : ws.Perm (wc ++ suf)) (hrs : (rest.map fun v => v.category).sum ≤ 8) (hd : decode cc pc = .ok (.invokespecial i, 3))
    (kk : ∀ w : va_W, P w → zV β n (zA Γ mc ms) (w ++ suf) (pc + 3) lv rest) : zV β n Γ ws pc lv (.ref b0 :: rest) := by
  refine zv_perm hp ?_
  obtain ⟨l, z⟩ := β
  obtain ⟨⟨p, e, R, s⟩, ⟨m, args, below, meth, c9⟩, ⟨Q, A, nc, ns⟩⟩ := Γ
  obtain ⟨hx, hb, hml, hown, hts, hK, hlk, hA, ⟨hfr0, hlo0⟩, ⟨hnc, hns⟩, hE⟩ := g
  intro H locs ls hP hD hS hl
  refine zz_backN (z := z) (post := fun r w => r = none ∧ P w) (wc := wc) (suf := suf) (a := (Value.ref b0 :: []).toArray) rfl ?_ hP hD hS hA hl (fun r w h => by obtain ⟨rfl, h⟩ := h; exact kk w h)
  exact va_runI (As := []) (rest := rest) (n := 0) (bytes := b) (maxL := nl) ⟨hx, hb, hml, hown, hts⟩ (hc H.size) ⟨zz_callN hts hw (Nat.le_trans hfr hfr0) (Nat.le_trans hlo hlo0), hyn, hts _ him⟩
    ⟨zPc.blind, fun U hU hW => zz_pre hU hW hK hP hD hS hA hE⟩ rfl rfl hl.1 rfl (lv_room hrs) hd hk
theorem zv_cIN {i : Nat} {y : MethodName} {b : ByteArray} {nl fr2 lo2 mc ms b0 : Nat} {wc suf : va_W} {P : va_W → Prop} {host : String} (g : zG β n Γ cc own fr lo) (hk : zK Γ mc ms) (hnl : ∀ (A : Nat → Prop) (U : State) (H : Heap), zz_E β.2 A U H → va_Nw (.methodLinkNest own i y host) U) (hini : Cond.initialized y.cls ∈ zT) (hcode : Cond.code y b nl none ∈ zT) (hdd : y.cls ≠ "java/lang/invoke/MethodHandle" ∧ y.cls ≠ "java/lang/invoke/VarHandle" ∧ (parseMethodDescriptor y.desc).map (fun d => d.parameters.length) = some 0) (him : Cond.instanceMethod y ∈ zT) (hyn : y.name = "<init>") (hc : zCn β y b nl fr2 lo2 mc ms [.ref b0] wc (fun r w => r = none ∧ P w)) (hfr : fr2 + 1 ≤ fr) (hlo : 8 + (nl + 11) + lo2 ≤ lo) (hp : ws.Perm (wc ++ suf)) (hrs : (rest.map fun v => v.category).sum ≤ 8) (hd : decode cc pc = .ok (.invokespecial i, 3))
    (kk : ∀ w : va_W, P w → zV β n (zA Γ mc ms) (w ++ suf) (pc + 3) lv rest) : zV β n Γ ws pc lv (.ref b0 :: rest) := by
  refine zv_perm hp ?_
  obtain ⟨l, z⟩ := β
  obtain ⟨⟨p, e, R, s⟩, ⟨m, args, below, meth, c9⟩, ⟨Q, A, nc, ns⟩⟩ := Γ
  obtain ⟨hx, hb, hml, hown, hts, hK, hlk, hA, ⟨hfr0, hlo0⟩, ⟨hnc, hns⟩, hE⟩ := g
  intro H locs ls hP hD hS hl
  refine zz_backN (z := z) (post := fun r w => r = none ∧ P w) (wc := wc) (suf := suf) (a := (Value.ref b0 :: []).toArray) rfl ?_ hP hD hS hA hl (fun r w h => by obtain ⟨rfl, h⟩ := h; exact kk w h)
  exact va_runIN (As := []) (rest := rest) (n := 0) (bytes := b) (maxL := nl) ⟨hx, hb, hml, hown, hts⟩ (hc H.size) ⟨va_cnB (Ts := zT) 0 hts (fun w hw => by
    rcases List.mem_cons.mp hw with rfl | hw
    · exact ⟨hcode, zT_good hcode⟩
    · exact ⟨hw, zT_good hw⟩) rfl rfl rfl (hnl _ _ _ hE) (hts _ hini) hdd ⟨Nat.le_trans hfr hfr0, Nat.le_trans hlo hlo0⟩, hyn, hts _ him⟩
    ⟨zPc.blind, fun U hU hW => zz_pre hU hW hK hP hD hS hA hE⟩ rfl rfl hl.1 rfl (lv_room hrs) hd hk
/-! storing a sheet into the array of sheets -/
theorem zv_sts {a N v : Nat} {f : Nat → Option Nat} {i : Int32} {vs : List Value} (ws2 : va_W) (g : zG β n Γ cc own fr lo) (q qk : Nat) (ha : ws[q]? = some (a, .inl (β.2.2.1.2.2, N, .inr (.inr (.inr (.inr f)))))) (hv : ws[qk]? = some (v, .inr (1, vs))) (hin : vp_in i N) (hw : ws.set q (a, .inl (β.2.2.1.2.2, N, .inr (.inr (.inr (.inr (va_up f i.toNatClampNeg (some v))))))) = ws2) (hd : decode cc pc = .ok (.aastore, 1)) (kk : zV β n Γ ws2 (pc + 1) lv rest) : zV β n Γ ws pc lv (.ref v :: .int i :: .ref a :: rest) := by
  obtain ⟨⟨p, e, R, s⟩, ⟨m, args, below, meth, c9⟩, ⟨Q, A, nc, ns⟩⟩ := Γ
  obtain ⟨hx, hb, hml, hown, hts, hK, hlk, hA, ⟨hfr, hlo⟩, ⟨hnc, hns⟩, hE⟩ := g
  intro H locs ls hP hD hS hl
  exact va_astq (D := β.2.1) (cl := vwCl) (tys := zz_tys β.2.2.1) hx hb hK hP hD hS q 2 qk 1 (r := (RX2, TX2, 3)) ha rfl hv rfl hin hd (fun H1 locs1 hP1 hD1 hS1 => kk H1 locs1 ls (hw ▸ hP1) (hw ▸ hD1) hS1 hl)
end ZNew
