/-- the text constants of Tape: the entry, the text, its bytes -/
def om_sx : List (Nat × String × List Int32) := [(65, "mover", [109, 111, 118, 101, 114]), (70, "thing", [116, 104, 105, 110, 103]), (75, "water", [119, 97, 116, 101, 114]), (80, "call", [99, 97, 108, 108]), (82, "bell", [98, 101, 108, 108]), (84, ";", [59]), (90, "work", [119, 111, 114, 107]), (92, "heavy", [104, 101, 97, 118, 121]), (94, "cart", [99, 97, 114, 116]), (96, "slow", [115, 108, 111, 119]), (98, "quick", [113, 117, 105, 99, 107]), (100, "own", [111, 119, 110]), (133, "to", [116, 111]), (134, "by", [98, 121]), (136, "for", [102, 111, 114]), (142, "behind", [98, 101, 104, 105, 110, 100]), (152, "within", [119, 105, 116, 104, 105, 110])]
def om_least : Nat → Int32 := fun j => ([0, 0, 1, 1] : List Int32).getD j 0
def om_most : Nat → Int32 := fun j => ([9, 8, 30, 20] : List Int32).getD j 0
/-- what the start says of constants: the two law rows, the texts, two of the JDK's statics; A: the cells that may change -/
def Ex (r : Nat → Nat) (A : Nat → Prop) (s : State) : Prop :=
  (va_Z "OneMoves" "LAW_LEAST" "[I" (.ref (r 700)) A s s.heap ∧ va_T .int (r 700) 4 (fun j => .int (om_least j)) A s s.heap) ∧
  (va_Z "OneMoves" "LAW_MOST" "[I" (.ref (r 701)) A s s.heap ∧ va_T .int (r 701) 4 (fun j => .int (om_most j)) A s s.heap) ∧
  (va_Nw (.fieldLinkNest RX4 102 "OneMoves" "LAW_LEAST" "[I" "OneMoves") s ∧ va_Nw (.fieldLinkNest RX4 106 "OneMoves" "LAW_MOST" "[I" "OneMoves") s) ∧
  vk_S 17 (om_sx.map fun q => q.2.2.length) (om_sx.map fun q => q.2.2) (fun i => r (800 + i)) (fun i => r (830 + i)) A s s.heap ∧
  (∀ (i : Nat) (q : Nat × String × List Int32), om_sx[i]? = some q → vk_R RX4 q.1 q.2.1 (r (800 + i)) s) ∧
  va_Z "java/lang/String" "COMPACT_STRINGS" "Z" (.int 1) A s s.heap ∧
  (va_Z "jdk/internal/util/Preconditions" "SIOOBE_FORMATTER" "Ljava/util/function/BiFunction;" .null A s s.heap ∨ va_Z "jdk/internal/util/Preconditions" "SIOOBE_FORMATTER" "Ljava/util/function/BiFunction;" (.ref (r 702)) A s s.heap)
theorem Ex.to {r : Nat → Nat} {A B : Nat → Prop} {s U : State} (h : Ex r A s) (hAB : ∀ q, B q → A q) (hH : ∀ a : Nat, a < s.heap.size → ¬ A a → U.heap[a]? = s.heap[a]?) (hW : s.WarmedH U.vm) : Ex r B U := by
  obtain ⟨⟨a1, a2⟩, ⟨b1, b2⟩, ⟨c1, c2⟩, d1, e1, f1, g1⟩ := h
  have hv := hW.alike
  refine ⟨⟨((a1.kept hH).moved hv).narrow hAB, ((a2.kept hH).moved hv).narrow hAB⟩, ⟨((b1.kept hH).moved hv).narrow hAB, ((b2.kept hH).moved hv).narrow hAB⟩, ⟨c1.warmF hW, c2.warmF hW⟩, ((d1.kept hH).moved hv).narrow hAB, fun i q hq => (e1 i q hq).warm hW, ((f1.kept hH).moved hv).narrow hAB, ?_⟩
  exact g1.imp (fun h => ((h.kept hH).moved hv).narrow hAB) (fun h => ((h.kept hH).moved hv).narrow hAB)
theorem Ex.same {r : Nat → Nat} {A : Nat → Prop} {s U : State} (h : Ex r A s) (hH : U.heap = s.heap) (hv : U.vm = s.vm) : Ex r A U := by
  obtain ⟨⟨a1, a2⟩, ⟨b1, b2⟩, ⟨c1, c2⟩, d1, e1, f1, g1⟩ := h
  have ha : s.vm.Alike U.vm := by rw [hv]; exact Vm.Alike.refl _
  unfold Ex
  rw [hH]
  exact ⟨⟨a1.moved ha, a2.moved ha⟩, ⟨b1.moved ha, b2.moved ha⟩, ⟨va_Nw.same rfl hv.symm c1, va_Nw.same rfl hv.symm c2⟩, d1.moved ha, fun i q hq => (e1 i q hq).same hv, f1.moved ha, g1.imp (fun h => h.moved ha) (fun h => h.moved ha)⟩
def om_rm (d : Nat) : Room := { frames := d, cells := 0, slots := 0, locals := 64 * d }
/-- a method: the number of its class, name, bytes, locals, what it returns -/
abbrev Mi : Type := Nat × MethodName × ByteArray × Nat × Option FieldType
/-- RUNS: from memory M the method returns rv and leaves M' -/
def Rn (d : Nat) (mi : Mi) (args : List Value) (M : Mm) (rv : Option Value) (M' : Mm) : Prop :=
  ∀ (l : Launch) (D : va_G) (r : Nat → Nat) (cA : Nat → ClassId), Met l mi.2.1 (Cond.code mi.2.1 mi.2.2.1 mi.2.2.2.1 mi.2.2.2.2 :: BIG) (om_rm d)
    (va_Pc (args.map (om_cv r)) (fun U => va_P D om_cl (om_ws r cA M) U.heap ∧ va_K D om_cl (om_tys cA) U ∧ va_D (om_A r) (om_ws r cA M) ∧ Ex r (om_A r) U))
    (fun _ st oc t => (oc = .returned (rv.map (om_cv r)) ∧ va_P D om_cl (om_ws r cA M') t.heap) ∧ va_F (om_A r) st t) 0 0 (om_A r)
/-- J: what the machine still has to do, from a place, locals, stack and memory -/
def Good (own : Nat) (bytes : ByteArray) (mL d : Nat) (J : Nat → Lc → List Value → Mm → Prop) : Prop :=
  ∃ (p : Program) (l : Launch) (e : Env) (R : Room) (s : State) (m : MethodId) (args : Array Value) (below : List Frame) (meth : Method) (c : Code) (cells slots : Nat) (Z : State → Prop) (D : va_G) (r : Nat → Nat) (cA : Nat → ClassId) (A : Nat → Prop),
    (p.tables.exec = Jvm.exec ∧ c.code = bytes ∧ c.maxLocals = mL ∧ s.vm.findClass (om_own own) = some m.cls ∧ (∀ w ∈ BIG, w.before args s = true) ∧ va_K D om_cl (om_tys cA) s ∧ Ex r A s ∧ (∀ {M : Mm}, va_D A (om_ws r cA M)) ∧ d ≤ R.frames ∧ 64 * d ≤ R.locals ∧ cells ≤ R.cells ∧ slots ≤ R.slots) ∧
    J = fun pc L st M => ∀ (H : Heap) (locs : List Loc) (ls : Array Slot), va_P D om_cl (om_ws r cA M) H → va_S A s.heap H locs → lvA r L ls mL → W p l e R s m args below meth c H locs cells slots Z (F0 m pc ls (st.map (om_cv r)))
def Ret (bytes : ByteArray) (ret : Option FieldType) (rv : Option Value) (M' : Mm) (J : Nat → Lc → List Value → Mm → Prop) : Prop :=
  (∀ (pc : Nat) (L : Lc) (v : Int32) (M : Mm), decode bytes pc = .ok (.ireturn, 1) → (∃ ty, ret = some ty ∧ narrow ty (.int v) = .int v) → rv = some (.int v) → M = M' → J pc L [.int v] M) ∧
  (∀ (pc : Nat) (L : Lc) (v : Int64) (M : Mm), decode bytes pc = .ok (.lreturn, 1) → ret = some .long → rv = some (.long v) → M = M' → J pc L [.long v] M) ∧
  (∀ (pc : Nat) (L : Lc) (a : Nat) (M : Mm), decode bytes pc = .ok (.areturn, 1) → (∃ t, ret = some t ∧ ((∃ n, t = .object n) ∨ ∃ u, t = .array u)) → rv = some (.ref a) → M = M' → J pc L [.ref a] M) ∧
  (∀ (pc : Nat) (L : Lc) (M : Mm), decode bytes pc = .ok (.return_, 1) → ret = none → rv = none → M = M' → J pc L [] M)
theorem Rn.of {d : Nat} {mi : Mi} {args : List Value} {M M' : Mm} {rv : Option Value} (L0 : Lc) (hy : Jvm.plainName mi.2.1.cls = true) (hown : mi.2.1.cls = om_own mi.1) (hL1 : (agL args).length ≤ mi.2.2.2.1) (hL : L0 = agL args ++ List.replicate (mi.2.2.2.1 - (agL args).length) none)
    (h : ∀ J, Good mi.1 mi.2.2.1 mi.2.2.2.1 d J → Ret mi.2.2.1 mi.2.2.2.2 rv M' J → J 0 L0 [] M) : Rn d mi args M rv M' := by
  intro l D r cA
  refine Met.ofW (cc := mi.2.2.1) (maxL := mi.2.2.2.1) (ret := mi.2.2.2.2) hy rfl ?_
  intro p e s m args' below meth c s₁ B hml hv
  obtain ⟨rfl, hP, hK, hD, hE⟩ := hv
  have hx := B.exec
  have hb := B.bytes
  have hr := B.returns
  have hts := atoms_spec (ws := Cond.code mi.2.1 mi.2.2.1 mi.2.2.2.1 mi.2.2.2.2 :: BIG) B.pre
  have hown2 : s.vm.findClass (om_own mi.1) = some m.cls := by rw [← hown]; exact findClass_of_methodNamed B.named
  have hlocks := B.notSynchronized
  refine (h _ ⟨p, l, e, _, s, m, _, below, meth, c, 0, 0, _, D, r, cA, om_A r, ⟨hx, hb, hml, hown2, fun w hw => hts w (List.mem_cons_of_mem _ hw), hK, hE, om_D_any hD, Nat.le_refl d, Nat.le_refl (64 * d), Nat.zero_le _, Nat.zero_le _⟩, rfl⟩ ⟨?_, ?_, ?_, ?_⟩) s.heap [] _ hP va_S.rf (lvA_entry r args hL1 hL) |> (fun q => by rw [lg_entry_eq]; exact q)
  · intro pc L v M1 hd hn hrv hM H locs ls hP1 hS1 hl1
    obtain ⟨ty, h1, h2⟩ := hn
    subst hM
    exact W.zret hx hb (hr.trans h1) h2 (fun t ht hW => ⟨⟨by rw [hrv]; rfl, by rw [ht]; exact hP1⟩, hS1.F ht⟩) hS1.2.2 hd
  · intro pc L v M1 hd hn hrv hM H locs ls hP1 hS1 hl1
    subst hM
    exact W.lret hx hb (hr.trans hn) (fun t ht hW => ⟨⟨by rw [hrv]; rfl, by rw [ht]; exact hP1⟩, hS1.F ht⟩) hS1.2.2 hd
  · intro pc L v M1 hd hn hrv hM H locs ls hP1 hS1 hl1
    obtain ⟨ty, h1, h2⟩ := hn
    subst hM
    exact W.aret hx hb (hr.trans h1) h2 (Or.inr ⟨_, rfl⟩) (fun t ht hW => ⟨⟨by rw [hrv]; rfl, by rw [ht]; exact hP1⟩, hS1.F ht⟩) hS1.2.2 hd
  · intro pc L M1 hd hn hrv hM H locs ls hP1 hS1 hl1
    subst hM
    exact W.vret hx hb (hr.trans hn) (fun t ht hW => ⟨⟨by rw [hrv]; rfl, by rw [ht]; exact hP1⟩, hS1.F ht⟩) hS1.2.2 hd
theorem om_nf_eq {ci : Nat} {q : vw_C} (h : om_cl[ci]? = some q) : om_nf ci = q.2.2 := by unfold om_nf; rw [h]
theorem om_cell_obj {r : Nat → Nat} {cA : Nat → ClassId} {M : Mm} {a k n : Nat} (h : k < 9) : om_cell r cA M a k n = .inr (k, (List.range (om_nf k)).map (om_fv r M a k)) := by
  unfold om_cell
  rw [if_neg (by omega), if_neg (by omega), if_neg (by omega), if_neg (by omega)]
theorem om_fv_id (r : Nat → Nat) (M : Mm) (a ci k : Nat) : om_cv r (om_fv id M a ci k) = om_fv r M a ci k := by
  unfold om_fv
  split <;> rfl
theorem om_narI {ty : FieldType} {v : Int32} (h : ty = .int ∨ (ty = .boolean ∧ (v = 0 ∨ v = 1))) : narrow ty (.int v) = .int v ∧ fits ty (.int v) = true := by
  rcases h with rfl | ⟨rfl, rfl | rfl⟩
  · exact ⟨rfl, rfl⟩
  · exact ⟨by decide +kernel, by decide +kernel⟩
  · exact ⟨by decide +kernel, by decide +kernel⟩
theorem om_narJ {ty : FieldType} {v : Int64} (h : ty = .long) : narrow ty (.long v) = .long v ∧ fits ty (.long v) = true := by
  subst h
  exact ⟨rfl, rfl⟩
theorem om_setI {r : Nat → Nat} {M : Mm} {a ci k : Nat} {v : Int32} (hk : k < om_nf ci) (h : om_ty ci k = .int ∨ (om_ty ci k = .boolean ∧ (v = 0 ∨ v = 1))) : ((List.range (om_nf ci)).map (om_fv r M a ci)).set k (.int v) = (List.range (om_nf ci)).map (om_fv r (wi M a k v) a ci) := by
  apply List.ext_getElem?
  intro j
  by_cases hj : j = k
  · subst hj
    rw [List.getElem?_set_self (by simpa using hk), List.getElem?_map, List.getElem?_range hk]
    show some _ = some (om_fv r (wi M a j v) a ci j)
    unfold om_fv
    rcases h with h | ⟨h, -⟩ <;> (rw [h]; simp [wi])
  · rw [List.getElem?_set_ne (Ne.symm hj), List.getElem?_map, List.getElem?_map]
    by_cases hj2 : j < om_nf ci
    · rw [List.getElem?_range hj2]
      show some (om_fv r M a ci j) = some (om_fv r (wi M a k v) a ci j)
      unfold om_fv
      simp [wi, hj]
    · rw [List.getElem?_eq_none (by simpa using hj2)]
      rfl
theorem om_setJ {r : Nat → Nat} {M : Mm} {a ci k : Nat} {v : Int64} (hk : k < om_nf ci) (h : om_ty ci k = .long) : ((List.range (om_nf ci)).map (om_fv r M a ci)).set k (.long v) = (List.range (om_nf ci)).map (om_fv r (wl M a k v) a ci) := by
  apply List.ext_getElem?
  intro j
  by_cases hj : j = k
  · subst hj
    rw [List.getElem?_set_self (by simpa using hk), List.getElem?_map, List.getElem?_range hk]
    show some _ = some (om_fv r (wl M a j v) a ci j)
    unfold om_fv
    rw [h]
    simp [wl]
  · rw [List.getElem?_set_ne (Ne.symm hj), List.getElem?_map, List.getElem?_map]
    by_cases hj2 : j < om_nf ci
    · rw [List.getElem?_range hj2]
      show some (om_fv r M a ci j) = some (om_fv r (wl M a k v) a ci j)
      unfold om_fv
      simp [wl, hj]
    · rw [List.getElem?_eq_none (by simpa using hj2)]
      rfl
theorem om_mmax : Cond.static Lib.Math.max.name ∈ BIG ∧ Cond.initialized "java/lang/Math" ∈ BIG ∧ Cond.code Lib.Math.max.name Lib.Math.max.code 2 (some .int) ∈ BIG := ⟨big_mem 723 (by decide +kernel) (by decide +kernel), big_mem 91 (by decide +kernel) (by decide +kernel), big_mem 724 (by decide +kernel) (by decide +kernel)⟩
theorem om_mmin : Cond.static Lib.Math.min.name ∈ BIG ∧ Cond.initialized "java/lang/Math" ∈ BIG ∧ Cond.code Lib.Math.min.name Lib.Math.min.code 2 (some .int) ∈ BIG := ⟨big_mem 792 (by decide +kernel) (by decide +kernel), big_mem 91 (by decide +kernel) (by decide +kernel), big_mem 793 (by decide +kernel) (by decide +kernel)⟩
theorem om_mabs : Cond.static Lib.Math.abs.name ∈ BIG ∧ Cond.initialized "java/lang/Math" ∈ BIG ∧ Cond.code Lib.Math.abs.name Lib.Math.abs.code 1 (some .int) ∈ BIG := ⟨big_mem 674 (by decide +kernel) (by decide +kernel), big_mem 91 (by decide +kernel) (by decide +kernel), big_mem 675 (by decide +kernel) (by decide +kernel)⟩
theorem om_copy : Cond.native arraycopyName ∈ BIG ∧ Cond.static arraycopyName ∈ BIG ∧ Cond.initialized "java/lang/System" ∈ BIG := ⟨big_mem 455 (by decide +kernel) (by decide +kernel), big_mem 454 (by decide +kernel) (by decide +kernel), big_mem 86 (by decide +kernel) (by decide +kernel)⟩
theorem j_iadd {own : Nat} {bytes : ByteArray} {mL d : Nat} {J : Nat → Lc → List Value → Mm → Prop} (g : Good own bytes mL d J) {pc : Nat} {L : Lc} {st : List Value} {M : Mm} {x y : Int32} (hd : decode bytes pc = .ok (.iadd, 1)) (k : J (pc + 1) L (.int (x + y) :: st) M) : J pc L (.int y :: .int x :: st) M := by
  obtain ⟨p, l, e, R, s, m, args, below, meth, c, cells, slots, Z, D, r, cA, A, ⟨hx, hb, hml, hown, hts, hK, hE, hD, hRf, hRl, hRc, hRs⟩, rfl⟩ := g
  intro H locs ls hP hS hl
  exact lv_iadd hx hb hd (k H locs ls hP hS hl)
theorem j_isub {own : Nat} {bytes : ByteArray} {mL d : Nat} {J : Nat → Lc → List Value → Mm → Prop} (g : Good own bytes mL d J) {pc : Nat} {L : Lc} {st : List Value} {M : Mm} {x y : Int32} (hd : decode bytes pc = .ok (.isub, 1)) (k : J (pc + 1) L (.int (x - y) :: st) M) : J pc L (.int y :: .int x :: st) M := by
  obtain ⟨p, l, e, R, s, m, args, below, meth, c, cells, slots, Z, D, r, cA, A, ⟨hx, hb, hml, hown, hts, hK, hE, hD, hRf, hRl, hRc, hRs⟩, rfl⟩ := g
  intro H locs ls hP hS hl
  exact lv_isub hx hb hd (k H locs ls hP hS hl)
theorem j_imul {own : Nat} {bytes : ByteArray} {mL d : Nat} {J : Nat → Lc → List Value → Mm → Prop} (g : Good own bytes mL d J) {pc : Nat} {L : Lc} {st : List Value} {M : Mm} {x y : Int32} (hd : decode bytes pc = .ok (.imul, 1)) (k : J (pc + 1) L (.int (x * y) :: st) M) : J pc L (.int y :: .int x :: st) M := by
  obtain ⟨p, l, e, R, s, m, args, below, meth, c, cells, slots, Z, D, r, cA, A, ⟨hx, hb, hml, hown, hts, hK, hE, hD, hRf, hRl, hRc, hRs⟩, rfl⟩ := g
  intro H locs ls hP hS hl
  exact lv_imul hx hb hd (k H locs ls hP hS hl)
theorem j_iand {own : Nat} {bytes : ByteArray} {mL d : Nat} {J : Nat → Lc → List Value → Mm → Prop} (g : Good own bytes mL d J) {pc : Nat} {L : Lc} {st : List Value} {M : Mm} {x y : Int32} (hd : decode bytes pc = .ok (.iand, 1)) (k : J (pc + 1) L (.int (x &&& y) :: st) M) : J pc L (.int y :: .int x :: st) M := by
  obtain ⟨p, l, e, R, s, m, args, below, meth, c, cells, slots, Z, D, r, cA, A, ⟨hx, hb, hml, hown, hts, hK, hE, hD, hRf, hRl, hRc, hRs⟩, rfl⟩ := g
  intro H locs ls hP hS hl
  exact lv_iand hx hb hd (k H locs ls hP hS hl)
theorem j_ior {own : Nat} {bytes : ByteArray} {mL d : Nat} {J : Nat → Lc → List Value → Mm → Prop} (g : Good own bytes mL d J) {pc : Nat} {L : Lc} {st : List Value} {M : Mm} {x y : Int32} (hd : decode bytes pc = .ok (.ior, 1)) (k : J (pc + 1) L (.int (x ||| y) :: st) M) : J pc L (.int y :: .int x :: st) M := by
  obtain ⟨p, l, e, R, s, m, args, below, meth, c, cells, slots, Z, D, r, cA, A, ⟨hx, hb, hml, hown, hts, hK, hE, hD, hRf, hRl, hRc, hRs⟩, rfl⟩ := g
  intro H locs ls hP hS hl
  exact lv_ior hx hb hd (k H locs ls hP hS hl)
theorem j_ixor {own : Nat} {bytes : ByteArray} {mL d : Nat} {J : Nat → Lc → List Value → Mm → Prop} (g : Good own bytes mL d J) {pc : Nat} {L : Lc} {st : List Value} {M : Mm} {x y : Int32} (hd : decode bytes pc = .ok (.ixor, 1)) (k : J (pc + 1) L (.int (x ^^^ y) :: st) M) : J pc L (.int y :: .int x :: st) M := by
  obtain ⟨p, l, e, R, s, m, args, below, meth, c, cells, slots, Z, D, r, cA, A, ⟨hx, hb, hml, hown, hts, hK, hE, hD, hRf, hRl, hRc, hRs⟩, rfl⟩ := g
  intro H locs ls hP hS hl
  exact lv_ixor hx hb hd (k H locs ls hP hS hl)
theorem j_ishl {own : Nat} {bytes : ByteArray} {mL d : Nat} {J : Nat → Lc → List Value → Mm → Prop} (g : Good own bytes mL d J) {pc : Nat} {L : Lc} {st : List Value} {M : Mm} {x y : Int32} (hd : decode bytes pc = .ok (.ishl, 1)) (k : J (pc + 1) L (.int (x <<< (y &&& 31)) :: st) M) : J pc L (.int y :: .int x :: st) M := by
  obtain ⟨p, l, e, R, s, m, args, below, meth, c, cells, slots, Z, D, r, cA, A, ⟨hx, hb, hml, hown, hts, hK, hE, hD, hRf, hRl, hRc, hRs⟩, rfl⟩ := g
  intro H locs ls hP hS hl
  exact lv_ishl hx hb hd (k H locs ls hP hS hl)
theorem j_ishr {own : Nat} {bytes : ByteArray} {mL d : Nat} {J : Nat → Lc → List Value → Mm → Prop} (g : Good own bytes mL d J) {pc : Nat} {L : Lc} {st : List Value} {M : Mm} {x y : Int32} (hd : decode bytes pc = .ok (.ishr, 1)) (k : J (pc + 1) L (.int (x >>> (y &&& 31)) :: st) M) : J pc L (.int y :: .int x :: st) M := by
  obtain ⟨p, l, e, R, s, m, args, below, meth, c, cells, slots, Z, D, r, cA, A, ⟨hx, hb, hml, hown, hts, hK, hE, hD, hRf, hRl, hRc, hRs⟩, rfl⟩ := g
  intro H locs ls hP hS hl
  exact lv_ishr hx hb hd (k H locs ls hP hS hl)
theorem j_idiv {own : Nat} {bytes : ByteArray} {mL d : Nat} {J : Nat → Lc → List Value → Mm → Prop} (g : Good own bytes mL d J) {pc : Nat} {L : Lc} {st : List Value} {M : Mm} {x y : Int32} (hd : decode bytes pc = .ok (.idiv, 1)) (hne : ¬ y = 0) (k : J (pc + 1) L (.int (x / y) :: st) M) : J pc L (.int y :: .int x :: st) M := by
  obtain ⟨p, l, e, R, s, m, args, below, meth, c, cells, slots, Z, D, r, cA, A, ⟨hx, hb, hml, hown, hts, hK, hE, hD, hRf, hRl, hRc, hRs⟩, rfl⟩ := g
  intro H locs ls hP hS hl
  exact lv_idiv hx hb hd hne (k H locs ls hP hS hl)
theorem j_irem {own : Nat} {bytes : ByteArray} {mL d : Nat} {J : Nat → Lc → List Value → Mm → Prop} (g : Good own bytes mL d J) {pc : Nat} {L : Lc} {st : List Value} {M : Mm} {x y : Int32} (hd : decode bytes pc = .ok (.irem, 1)) (hne : ¬ y = 0) (k : J (pc + 1) L (.int (x - x / y * y) :: st) M) : J pc L (.int y :: .int x :: st) M := by
  obtain ⟨p, l, e, R, s, m, args, below, meth, c, cells, slots, Z, D, r, cA, A, ⟨hx, hb, hml, hown, hts, hK, hE, hD, hRf, hRl, hRc, hRs⟩, rfl⟩ := g
  intro H locs ls hP hS hl
  exact lv_irem hx hb hd hne (k H locs ls hP hS hl)
theorem j_ladd {own : Nat} {bytes : ByteArray} {mL d : Nat} {J : Nat → Lc → List Value → Mm → Prop} (g : Good own bytes mL d J) {pc : Nat} {L : Lc} {st : List Value} {M : Mm} {x y : Int64} (hd : decode bytes pc = .ok (.ladd, 1)) (k : J (pc + 1) L (.long (x + y) :: st) M) : J pc L (.long y :: .long x :: st) M := by
  obtain ⟨p, l, e, R, s, m, args, below, meth, c, cells, slots, Z, D, r, cA, A, ⟨hx, hb, hml, hown, hts, hK, hE, hD, hRf, hRl, hRc, hRs⟩, rfl⟩ := g
  intro H locs ls hP hS hl
  exact lv_ladd hx hb hd (k H locs ls hP hS hl)
theorem j_lsub {own : Nat} {bytes : ByteArray} {mL d : Nat} {J : Nat → Lc → List Value → Mm → Prop} (g : Good own bytes mL d J) {pc : Nat} {L : Lc} {st : List Value} {M : Mm} {x y : Int64} (hd : decode bytes pc = .ok (.lsub, 1)) (k : J (pc + 1) L (.long (x - y) :: st) M) : J pc L (.long y :: .long x :: st) M := by
  obtain ⟨p, l, e, R, s, m, args, below, meth, c, cells, slots, Z, D, r, cA, A, ⟨hx, hb, hml, hown, hts, hK, hE, hD, hRf, hRl, hRc, hRs⟩, rfl⟩ := g
  intro H locs ls hP hS hl
  exact lv_lsub hx hb hd (k H locs ls hP hS hl)
theorem j_lmul {own : Nat} {bytes : ByteArray} {mL d : Nat} {J : Nat → Lc → List Value → Mm → Prop} (g : Good own bytes mL d J) {pc : Nat} {L : Lc} {st : List Value} {M : Mm} {x y : Int64} (hd : decode bytes pc = .ok (.lmul, 1)) (k : J (pc + 1) L (.long (x * y) :: st) M) : J pc L (.long y :: .long x :: st) M := by
  obtain ⟨p, l, e, R, s, m, args, below, meth, c, cells, slots, Z, D, r, cA, A, ⟨hx, hb, hml, hown, hts, hK, hE, hD, hRf, hRl, hRc, hRs⟩, rfl⟩ := g
  intro H locs ls hP hS hl
  exact lv_lmul hx hb hd (k H locs ls hP hS hl)
theorem j_land {own : Nat} {bytes : ByteArray} {mL d : Nat} {J : Nat → Lc → List Value → Mm → Prop} (g : Good own bytes mL d J) {pc : Nat} {L : Lc} {st : List Value} {M : Mm} {x y : Int64} (hd : decode bytes pc = .ok (.land, 1)) (k : J (pc + 1) L (.long (x &&& y) :: st) M) : J pc L (.long y :: .long x :: st) M := by
  obtain ⟨p, l, e, R, s, m, args, below, meth, c, cells, slots, Z, D, r, cA, A, ⟨hx, hb, hml, hown, hts, hK, hE, hD, hRf, hRl, hRc, hRs⟩, rfl⟩ := g
  intro H locs ls hP hS hl
  exact lv_land hx hb hd (k H locs ls hP hS hl)
theorem j_lor {own : Nat} {bytes : ByteArray} {mL d : Nat} {J : Nat → Lc → List Value → Mm → Prop} (g : Good own bytes mL d J) {pc : Nat} {L : Lc} {st : List Value} {M : Mm} {x y : Int64} (hd : decode bytes pc = .ok (.lor, 1)) (k : J (pc + 1) L (.long (x ||| y) :: st) M) : J pc L (.long y :: .long x :: st) M := by
  obtain ⟨p, l, e, R, s, m, args, below, meth, c, cells, slots, Z, D, r, cA, A, ⟨hx, hb, hml, hown, hts, hK, hE, hD, hRf, hRl, hRc, hRs⟩, rfl⟩ := g
  intro H locs ls hP hS hl
  exact lv_lor hx hb hd (k H locs ls hP hS hl)
theorem j_ldiv {own : Nat} {bytes : ByteArray} {mL d : Nat} {J : Nat → Lc → List Value → Mm → Prop} (g : Good own bytes mL d J) {pc : Nat} {L : Lc} {st : List Value} {M : Mm} {x y : Int64} (hd : decode bytes pc = .ok (.ldiv, 1)) (hne : ¬ y = 0) (k : J (pc + 1) L (.long (x / y) :: st) M) : J pc L (.long y :: .long x :: st) M := by
  obtain ⟨p, l, e, R, s, m, args, below, meth, c, cells, slots, Z, D, r, cA, A, ⟨hx, hb, hml, hown, hts, hK, hE, hD, hRf, hRl, hRc, hRs⟩, rfl⟩ := g
  intro H locs ls hP hS hl
  exact lv_ldiv hx hb hd hne (k H locs ls hP hS hl)
theorem j_lrem {own : Nat} {bytes : ByteArray} {mL d : Nat} {J : Nat → Lc → List Value → Mm → Prop} (g : Good own bytes mL d J) {pc : Nat} {L : Lc} {st : List Value} {M : Mm} {x y : Int64} (hd : decode bytes pc = .ok (.lrem, 1)) (hne : ¬ y = 0) (k : J (pc + 1) L (.long (x - x / y * y) :: st) M) : J pc L (.long y :: .long x :: st) M := by
  obtain ⟨p, l, e, R, s, m, args, below, meth, c, cells, slots, Z, D, r, cA, A, ⟨hx, hb, hml, hown, hts, hK, hE, hD, hRf, hRl, hRc, hRs⟩, rfl⟩ := g
  intro H locs ls hP hS hl
  exact lv_lrem hx hb hd hne (k H locs ls hP hS hl)
theorem j_lshl {own : Nat} {bytes : ByteArray} {mL d : Nat} {J : Nat → Lc → List Value → Mm → Prop} (g : Good own bytes mL d J) {pc : Nat} {L : Lc} {st : List Value} {M : Mm} {x : Int64} {y : Int32} (hd : decode bytes pc = .ok (.lshl, 1)) (k : J (pc + 1) L (.long (x <<< (y.toInt64 &&& 63)) :: st) M) : J pc L (.int y :: .long x :: st) M := by
  obtain ⟨p, l, e, R, s, m, args, below, meth, c, cells, slots, Z, D, r, cA, A, ⟨hx, hb, hml, hown, hts, hK, hE, hD, hRf, hRl, hRc, hRs⟩, rfl⟩ := g
  intro H locs ls hP hS hl
  exact lv_lshl hx hb hd rfl (k H locs ls hP hS hl)
theorem j_lshr {own : Nat} {bytes : ByteArray} {mL d : Nat} {J : Nat → Lc → List Value → Mm → Prop} (g : Good own bytes mL d J) {pc : Nat} {L : Lc} {st : List Value} {M : Mm} {x : Int64} {y : Int32} (hd : decode bytes pc = .ok (.lshr, 1)) (k : J (pc + 1) L (.long (x >>> (y.toInt64 &&& 63)) :: st) M) : J pc L (.int y :: .long x :: st) M := by
  obtain ⟨p, l, e, R, s, m, args, below, meth, c, cells, slots, Z, D, r, cA, A, ⟨hx, hb, hml, hown, hts, hK, hE, hD, hRf, hRl, hRc, hRs⟩, rfl⟩ := g
  intro H locs ls hP hS hl
  exact lv_lshr hx hb hd rfl (k H locs ls hP hS hl)
theorem j_iushr {own : Nat} {bytes : ByteArray} {mL d : Nat} {J : Nat → Lc → List Value → Mm → Prop} (g : Good own bytes mL d J) {pc : Nat} {L : Lc} {st : List Value} {M : Mm} {x y : Int32} (hd : decode bytes pc = .ok (.iushr, 1)) (k : J (pc + 1) L (.int ((x.toUInt32 >>> (y.toUInt32 &&& Int32.toUInt32 31)).toInt32) :: st) M) : J pc L (.int y :: .int x :: st) M := by
  obtain ⟨p, l, e, R, s, m, args, below, meth, c, cells, slots, Z, D, r, cA, A, ⟨hx, hb, hml, hown, hts, hK, hE, hD, hRf, hRl, hRc, hRs⟩, rfl⟩ := g
  intro H locs ls hP hS hl
  exact lv_iushr hx hb hd rfl (k H locs ls hP hS hl)
theorem j_lcmp {own : Nat} {bytes : ByteArray} {mL d : Nat} {J : Nat → Lc → List Value → Mm → Prop} (g : Good own bytes mL d J) {pc : Nat} {L : Lc} {st : List Value} {M : Mm} {x y : Int64} (hd : decode bytes pc = .ok (.lcmp, 1)) (k : J (pc + 1) L (.int (lg_cmp x y) :: st) M) : J pc L (.long y :: .long x :: st) M := by
  obtain ⟨p, l, e, R, s, m, args, below, meth, c, cells, slots, Z, D, r, cA, A, ⟨hx, hb, hml, hown, hts, hK, hE, hD, hRf, hRl, hRc, hRs⟩, rfl⟩ := g
  intro H locs ls hP hS hl
  exact W.lcmp hx hb hd (k H locs ls hP hS hl)
theorem j_i2l {own : Nat} {bytes : ByteArray} {mL d : Nat} {J : Nat → Lc → List Value → Mm → Prop} (g : Good own bytes mL d J) {pc : Nat} {L : Lc} {st : List Value} {M : Mm} {x : Int32} (hd : decode bytes pc = .ok (.i2l, 1)) (k : J (pc + 1) L (.long (x.toInt64) :: st) M) : J pc L (.int x :: st) M := by
  obtain ⟨p, l, e, R, s, m, args, below, meth, c, cells, slots, Z, D, r, cA, A, ⟨hx, hb, hml, hown, hts, hK, hE, hD, hRf, hRl, hRc, hRs⟩, rfl⟩ := g
  intro H locs ls hP hS hl
  exact lv_i2l hx hb hd rfl (k H locs ls hP hS hl)
theorem j_l2i {own : Nat} {bytes : ByteArray} {mL d : Nat} {J : Nat → Lc → List Value → Mm → Prop} (g : Good own bytes mL d J) {pc : Nat} {L : Lc} {st : List Value} {M : Mm} {x : Int64} (hd : decode bytes pc = .ok (.l2i, 1)) (k : J (pc + 1) L (.int (x.toInt32) :: st) M) : J pc L (.long x :: st) M := by
  obtain ⟨p, l, e, R, s, m, args, below, meth, c, cells, slots, Z, D, r, cA, A, ⟨hx, hb, hml, hown, hts, hK, hE, hD, hRf, hRl, hRc, hRs⟩, rfl⟩ := g
  intro H locs ls hP hS hl
  exact lv_l2i hx hb hd rfl (k H locs ls hP hS hl)
theorem j_i2b {own : Nat} {bytes : ByteArray} {mL d : Nat} {J : Nat → Lc → List Value → Mm → Prop} (g : Good own bytes mL d J) {pc : Nat} {L : Lc} {st : List Value} {M : Mm} {x : Int32} (hd : decode bytes pc = .ok (.i2b, 1)) (k : J (pc + 1) L (.int (x.toInt8.toInt32) :: st) M) : J pc L (.int x :: st) M := by
  obtain ⟨p, l, e, R, s, m, args, below, meth, c, cells, slots, Z, D, r, cA, A, ⟨hx, hb, hml, hown, hts, hK, hE, hD, hRf, hRl, hRc, hRs⟩, rfl⟩ := g
  intro H locs ls hP hS hl
  exact lv_i2b hx hb hd rfl (k H locs ls hP hS hl)
theorem j_i2s {own : Nat} {bytes : ByteArray} {mL d : Nat} {J : Nat → Lc → List Value → Mm → Prop} (g : Good own bytes mL d J) {pc : Nat} {L : Lc} {st : List Value} {M : Mm} {x : Int32} (hd : decode bytes pc = .ok (.i2s, 1)) (k : J (pc + 1) L (.int (x.toInt16.toInt32) :: st) M) : J pc L (.int x :: st) M := by
  obtain ⟨p, l, e, R, s, m, args, below, meth, c, cells, slots, Z, D, r, cA, A, ⟨hx, hb, hml, hown, hts, hK, hE, hD, hRf, hRl, hRc, hRs⟩, rfl⟩ := g
  intro H locs ls hP hS hl
  exact lv_i2s hx hb hd rfl (k H locs ls hP hS hl)
theorem j_ineg {own : Nat} {bytes : ByteArray} {mL d : Nat} {J : Nat → Lc → List Value → Mm → Prop} (g : Good own bytes mL d J) {pc : Nat} {L : Lc} {st : List Value} {M : Mm} {x : Int32} (hd : decode bytes pc = .ok (.ineg, 1)) (k : J (pc + 1) L (.int (-x) :: st) M) : J pc L (.int x :: st) M := by
  obtain ⟨p, l, e, R, s, m, args, below, meth, c, cells, slots, Z, D, r, cA, A, ⟨hx, hb, hml, hown, hts, hK, hE, hD, hRf, hRl, hRc, hRs⟩, rfl⟩ := g
  intro H locs ls hP hS hl
  exact lv_ineg hx hb hd (k H locs ls hP hS hl)
theorem j_iconst {own : Nat} {bytes : ByteArray} {mL d : Nat} {J : Nat → Lc → List Value → Mm → Prop} (g : Good own bytes mL d J) {pc : Nat} {L : Lc} {st : List Value} {M : Mm} {n : Int} (v : Int32) (hd : decode bytes pc = .ok (.iconst n, 1)) (hv : Int32.ofInt n = v) (k : J (pc + 1) L (.int v :: st) M) : J pc L st M := by
  obtain ⟨p, l, e, R, s, m, args, below, meth, c, cells, slots, Z, D, r, cA, A, ⟨hx, hb, hml, hown, hts, hK, hE, hD, hRf, hRl, hRc, hRs⟩, rfl⟩ := g
  intro H locs ls hP hS hl
  exact lv_iconst hx hb hd hv (k H locs ls hP hS hl)
theorem j_bipush {own : Nat} {bytes : ByteArray} {mL d : Nat} {J : Nat → Lc → List Value → Mm → Prop} (g : Good own bytes mL d J) {pc : Nat} {L : Lc} {st : List Value} {M : Mm} {n : Int} (v : Int32) (hd : decode bytes pc = .ok (.bipush n, 2)) (hv : (Int8.ofInt n).toInt32 = v) (k : J (pc + 2) L (.int v :: st) M) : J pc L st M := by
  obtain ⟨p, l, e, R, s, m, args, below, meth, c, cells, slots, Z, D, r, cA, A, ⟨hx, hb, hml, hown, hts, hK, hE, hD, hRf, hRl, hRc, hRs⟩, rfl⟩ := g
  intro H locs ls hP hS hl
  exact lv_bipush hx hb hd hv (k H locs ls hP hS hl)
theorem j_sipush {own : Nat} {bytes : ByteArray} {mL d : Nat} {J : Nat → Lc → List Value → Mm → Prop} (g : Good own bytes mL d J) {pc : Nat} {L : Lc} {st : List Value} {M : Mm} {n : Int} (v : Int32) (hd : decode bytes pc = .ok (.sipush n, 3)) (hv : (Int16.ofInt n).toInt32 = v) (k : J (pc + 3) L (.int v :: st) M) : J pc L st M := by
  obtain ⟨p, l, e, R, s, m, args, below, meth, c, cells, slots, Z, D, r, cA, A, ⟨hx, hb, hml, hown, hts, hK, hE, hD, hRf, hRl, hRc, hRs⟩, rfl⟩ := g
  intro H locs ls hP hS hl
  exact lv_sipush hx hb hd hv (k H locs ls hP hS hl)
theorem j_lconst {own : Nat} {bytes : ByteArray} {mL d : Nat} {J : Nat → Lc → List Value → Mm → Prop} (g : Good own bytes mL d J) {pc : Nat} {L : Lc} {st : List Value} {M : Mm} {n : Fin 2} (v : Int64) (hd : decode bytes pc = .ok (.lconst n, 1)) (hv : Int64.ofNat (n : Nat) = v) (k : J (pc + 1) L (.long v :: st) M) : J pc L st M := by
  obtain ⟨p, l, e, R, s, m, args, below, meth, c, cells, slots, Z, D, r, cA, A, ⟨hx, hb, hml, hown, hts, hK, hE, hD, hRf, hRl, hRc, hRs⟩, rfl⟩ := g
  intro H locs ls hP hS hl
  exact lv_lconst hx hb hd hv (k H locs ls hP hS hl)
theorem j_ldc2 {own : Nat} {bytes : ByteArray} {mL d : Nat} {J : Nat → Lc → List Value → Mm → Prop} (g : Good own bytes mL d J) {pc : Nat} {L : Lc} {st : List Value} {M : Mm} {n : Nat} (v : Int64) (hd : decode bytes pc = .ok (.ldc2_w n, 3)) (hv : Cond.constantLong (om_own own) n v ∈ BIG) (k : J (pc + 3) L (.long v :: st) M) : J pc L st M := by
  obtain ⟨p, l, e, R, s, m, args, below, meth, c, cells, slots, Z, D, r, cA, A, ⟨hx, hb, hml, hown, hts, hK, hE, hD, hRf, hRl, hRc, hRs⟩, rfl⟩ := g
  intro H locs ls hP hS hl
  exact lv_ldc2 hx hb hown (hts _ hv) hd (k H locs ls hP hS hl)
theorem j_iload_n {own : Nat} {bytes : ByteArray} {mL d : Nat} {J : Nat → Lc → List Value → Mm → Prop} (g : Good own bytes mL d J) {pc : Nat} {L : Lc} {st : List Value} {M : Mm} {i : Fin 4} {x : Int32} (hd : decode bytes pc = .ok (.iload_n i, 1)) (hv : ldL L i = some (.int x)) (k : J (pc + 1) L (.int x :: st) M) : J pc L st M := by
  obtain ⟨p, l, e, R, s, m, args, below, meth, c, cells, slots, Z, D, r, cA, A, ⟨hx, hb, hml, hown, hts, hK, hE, hD, hRf, hRl, hRc, hRs⟩, rfl⟩ := g
  intro H locs ls hP hS hl
  exact lv_iload_n hx hb hd rfl (hl.2.2 _ _ (ldL_at _ _ _ hv)) (k H locs ls hP hS hl)
theorem j_iload {own : Nat} {bytes : ByteArray} {mL d : Nat} {J : Nat → Lc → List Value → Mm → Prop} (g : Good own bytes mL d J) {pc : Nat} {L : Lc} {st : List Value} {M : Mm} {i : Nat} {x : Int32} (hd : decode bytes pc = .ok (.iload i, 2)) (hv : ldL L i = some (.int x)) (k : J (pc + 2) L (.int x :: st) M) : J pc L st M := by
  obtain ⟨p, l, e, R, s, m, args, below, meth, c, cells, slots, Z, D, r, cA, A, ⟨hx, hb, hml, hown, hts, hK, hE, hD, hRf, hRl, hRc, hRs⟩, rfl⟩ := g
  intro H locs ls hP hS hl
  exact lv_iload hx hb hd (hl.2.2 _ _ (ldL_at _ _ _ hv)) (k H locs ls hP hS hl)
theorem j_lload_n {own : Nat} {bytes : ByteArray} {mL d : Nat} {J : Nat → Lc → List Value → Mm → Prop} (g : Good own bytes mL d J) {pc : Nat} {L : Lc} {st : List Value} {M : Mm} {i : Fin 4} {x : Int64} (hd : decode bytes pc = .ok (.lload_n i, 1)) (hv : ldL L i = some (.long x)) (k : J (pc + 1) L (.long x :: st) M) : J pc L st M := by
  obtain ⟨p, l, e, R, s, m, args, below, meth, c, cells, slots, Z, D, r, cA, A, ⟨hx, hb, hml, hown, hts, hK, hE, hD, hRf, hRl, hRc, hRs⟩, rfl⟩ := g
  intro H locs ls hP hS hl
  exact lv_lload_n hx hb hd rfl (hl.2.2 _ _ (ldL_at _ _ _ hv)) (k H locs ls hP hS hl)
theorem j_lload {own : Nat} {bytes : ByteArray} {mL d : Nat} {J : Nat → Lc → List Value → Mm → Prop} (g : Good own bytes mL d J) {pc : Nat} {L : Lc} {st : List Value} {M : Mm} {i : Nat} {x : Int64} (hd : decode bytes pc = .ok (.lload i, 2)) (hv : ldL L i = some (.long x)) (k : J (pc + 2) L (.long x :: st) M) : J pc L st M := by
  obtain ⟨p, l, e, R, s, m, args, below, meth, c, cells, slots, Z, D, r, cA, A, ⟨hx, hb, hml, hown, hts, hK, hE, hD, hRf, hRl, hRc, hRs⟩, rfl⟩ := g
  intro H locs ls hP hS hl
  exact lv_lload hx hb hd (hl.2.2 _ _ (ldL_at _ _ _ hv)) (k H locs ls hP hS hl)
theorem j_aload_n {own : Nat} {bytes : ByteArray} {mL d : Nat} {J : Nat → Lc → List Value → Mm → Prop} (g : Good own bytes mL d J) {pc : Nat} {L : Lc} {st : List Value} {M : Mm} {i : Fin 4} {x : Nat} (hd : decode bytes pc = .ok (.aload_n i, 1)) (hv : ldL L i = some (.ref x)) (k : J (pc + 1) L (.ref x :: st) M) : J pc L st M := by
  obtain ⟨p, l, e, R, s, m, args, below, meth, c, cells, slots, Z, D, r, cA, A, ⟨hx, hb, hml, hown, hts, hK, hE, hD, hRf, hRl, hRc, hRs⟩, rfl⟩ := g
  intro H locs ls hP hS hl
  exact lv_aload_n hx hb hd rfl (hl.2.2 _ _ (ldL_at _ _ _ hv)) (k H locs ls hP hS hl)
theorem j_aload {own : Nat} {bytes : ByteArray} {mL d : Nat} {J : Nat → Lc → List Value → Mm → Prop} (g : Good own bytes mL d J) {pc : Nat} {L : Lc} {st : List Value} {M : Mm} {i : Nat} {x : Nat} (hd : decode bytes pc = .ok (.aload i, 2)) (hv : ldL L i = some (.ref x)) (k : J (pc + 2) L (.ref x :: st) M) : J pc L st M := by
  obtain ⟨p, l, e, R, s, m, args, below, meth, c, cells, slots, Z, D, r, cA, A, ⟨hx, hb, hml, hown, hts, hK, hE, hD, hRf, hRl, hRc, hRs⟩, rfl⟩ := g
  intro H locs ls hP hS hl
  exact lv_aload hx hb hd (hl.2.2 _ _ (ldL_at _ _ _ hv)) (k H locs ls hP hS hl)
theorem j_istore_n {own : Nat} {bytes : ByteArray} {mL d : Nat} {J : Nat → Lc → List Value → Mm → Prop} (g : Good own bytes mL d J) {pc : Nat} {L : Lc} {st : List Value} {M : Mm} {i : Fin 4} {x : Int32} (hd : decode bytes pc = .ok (.istore_n i, 1)) (hn : (i : Nat) < mL) (k : J (pc + 1) (stL L i (.int x)) st M) : J pc L (.int x :: st) M := by
  obtain ⟨p, l, e, R, s, m, args, below, meth, c, cells, slots, Z, D, r, cA, A, ⟨hx, hb, hml, hown, hts, hK, hE, hD, hRf, hRl, hRc, hRs⟩, rfl⟩ := g
  intro H locs ls hP hS hl
  exact lv_istore_n hx hb hd rfl (lvA_has hl) hn rfl (fun ls2 h2 => k H locs ls2 hP hS (lvA_st1 (v := .int x) h2 rfl))
theorem j_istore {own : Nat} {bytes : ByteArray} {mL d : Nat} {J : Nat → Lc → List Value → Mm → Prop} (g : Good own bytes mL d J) {pc : Nat} {L : Lc} {st : List Value} {M : Mm} {i : Nat} {x : Int32} (hd : decode bytes pc = .ok (.istore i, 2)) (hn : i < mL) (k : J (pc + 2) (stL L i (.int x)) st M) : J pc L (.int x :: st) M := by
  obtain ⟨p, l, e, R, s, m, args, below, meth, c, cells, slots, Z, D, r, cA, A, ⟨hx, hb, hml, hown, hts, hK, hE, hD, hRf, hRl, hRc, hRs⟩, rfl⟩ := g
  intro H locs ls hP hS hl
  exact lv_istore hx hb hd (lvA_has hl) hn rfl (fun ls2 h2 => k H locs ls2 hP hS (lvA_st1 (v := .int x) h2 rfl))
theorem j_lstore_n {own : Nat} {bytes : ByteArray} {mL d : Nat} {J : Nat → Lc → List Value → Mm → Prop} (g : Good own bytes mL d J) {pc : Nat} {L : Lc} {st : List Value} {M : Mm} {i : Fin 4} {x : Int64} (hd : decode bytes pc = .ok (.lstore_n i, 1)) (hn : (i : Nat) + 1 < mL) (k : J (pc + 1) (stL L i (.long x)) st M) : J pc L (.long x :: st) M := by
  obtain ⟨p, l, e, R, s, m, args, below, meth, c, cells, slots, Z, D, r, cA, A, ⟨hx, hb, hml, hown, hts, hK, hE, hD, hRf, hRl, hRc, hRs⟩, rfl⟩ := g
  intro H locs ls hP hS hl
  exact lv_lstore_n hx hb hd rfl (lvA_has hl) hn rfl (fun ls2 h2 => k H locs ls2 hP hS (lvA_st2 (v := .long x) h2 rfl))
theorem j_lstore {own : Nat} {bytes : ByteArray} {mL d : Nat} {J : Nat → Lc → List Value → Mm → Prop} (g : Good own bytes mL d J) {pc : Nat} {L : Lc} {st : List Value} {M : Mm} {i : Nat} {x : Int64} (hd : decode bytes pc = .ok (.lstore i, 2)) (hn : i + 1 < mL) (k : J (pc + 2) (stL L i (.long x)) st M) : J pc L (.long x :: st) M := by
  obtain ⟨p, l, e, R, s, m, args, below, meth, c, cells, slots, Z, D, r, cA, A, ⟨hx, hb, hml, hown, hts, hK, hE, hD, hRf, hRl, hRc, hRs⟩, rfl⟩ := g
  intro H locs ls hP hS hl
  exact lv_lstore hx hb hd (lvA_has hl) hn rfl (fun ls2 h2 => k H locs ls2 hP hS (lvA_st2 (v := .long x) h2 rfl))
theorem j_astore_n {own : Nat} {bytes : ByteArray} {mL d : Nat} {J : Nat → Lc → List Value → Mm → Prop} (g : Good own bytes mL d J) {pc : Nat} {L : Lc} {st : List Value} {M : Mm} {i : Fin 4} {x : Nat} (hd : decode bytes pc = .ok (.astore_n i, 1)) (hn : (i : Nat) < mL) (k : J (pc + 1) (stL L i (.ref x)) st M) : J pc L (.ref x :: st) M := by
  obtain ⟨p, l, e, R, s, m, args, below, meth, c, cells, slots, Z, D, r, cA, A, ⟨hx, hb, hml, hown, hts, hK, hE, hD, hRf, hRl, hRc, hRs⟩, rfl⟩ := g
  intro H locs ls hP hS hl
  exact lv_astore_n hx hb hd rfl (lvA_has hl) hn rfl (fun ls2 h2 => k H locs ls2 hP hS (lvA_st1 (v := .ref x) h2 rfl))
theorem j_astore {own : Nat} {bytes : ByteArray} {mL d : Nat} {J : Nat → Lc → List Value → Mm → Prop} (g : Good own bytes mL d J) {pc : Nat} {L : Lc} {st : List Value} {M : Mm} {i : Nat} {x : Nat} (hd : decode bytes pc = .ok (.astore i, 2)) (hn : i < mL) (k : J (pc + 2) (stL L i (.ref x)) st M) : J pc L (.ref x :: st) M := by
  obtain ⟨p, l, e, R, s, m, args, below, meth, c, cells, slots, Z, D, r, cA, A, ⟨hx, hb, hml, hown, hts, hK, hE, hD, hRf, hRl, hRc, hRs⟩, rfl⟩ := g
  intro H locs ls hP hS hl
  exact lv_astore hx hb hd (lvA_has hl) hn rfl (fun ls2 h2 => k H locs ls2 hP hS (lvA_st1 (v := .ref x) h2 rfl))
theorem j_iinc {own : Nat} {bytes : ByteArray} {mL d : Nat} {J : Nat → Lc → List Value → Mm → Prop} (g : Good own bytes mL d J) {pc : Nat} {L : Lc} {st : List Value} {M : Mm} {i : Nat} {n : Int} {x : Int32} (v : Int32) (hd : decode bytes pc = .ok (.iinc i n, 3)) (hv : Int32.ofInt n = v) (hn : i < mL) (hx0 : ldL L i = some (.int x)) (k : J (pc + 3) (stL L i (.int (x + v))) st M) : J pc L st M := by
  obtain ⟨p, l, e, R, s, m, args, below, meth, c, cells, slots, Z, D, r, cA, A, ⟨hx, hb, hml, hown, hts, hK, hE, hD, hRf, hRl, hRc, hRs⟩, rfl⟩ := g
  intro H locs ls hP hS hl
  subst hv
  obtain ⟨q, hq⟩ := List.getElem?_of_mem (by simpa using lvl_in r L 0 i _ (ldL_at _ _ _ hx0) : (i, om_cv r (.int x)) ∈ lvl r 0 L)
  exact lv_iinc hx hb hd (lvA_has hl) hq rfl hn rfl (fun ls2 h2 => k H locs ls2 hP hS (lvA_st1 (v := .int (x + Int32.ofInt n)) h2 rfl))
theorem j_dup {own : Nat} {bytes : ByteArray} {mL d : Nat} {J : Nat → Lc → List Value → Mm → Prop} (g : Good own bytes mL d J) {pc : Nat} {L : Lc} {st : List Value} {M : Mm} {v : Value} (hd : decode bytes pc = .ok (.dup, 1)) (hv : v.category = 1) (k : J (pc + 1) L (v :: v :: st) M) : J pc L (v :: st) M := by
  obtain ⟨p, l, e, R, s, m, args, below, meth, c, cells, slots, Z, D, r, cA, A, ⟨hx, hb, hml, hown, hts, hK, hE, hD, hRf, hRl, hRc, hRs⟩, rfl⟩ := g
  intro H locs ls hP hS hl
  exact lv_dup hx hb hd (by rw [om_cat]; exact hv) (k H locs ls hP hS hl)
theorem j_dup2 {own : Nat} {bytes : ByteArray} {mL d : Nat} {J : Nat → Lc → List Value → Mm → Prop} (g : Good own bytes mL d J) {pc : Nat} {L : Lc} {st : List Value} {M : Mm} {v w : Value} (hd : decode bytes pc = .ok (.dup2, 1)) (hv : v.category = 1) (hw : w.category = 1) (k : J (pc + 1) L (v :: w :: v :: w :: st) M) : J pc L (v :: w :: st) M := by
  obtain ⟨p, l, e, R, s, m, args, below, meth, c, cells, slots, Z, D, r, cA, A, ⟨hx, hb, hml, hown, hts, hK, hE, hD, hRf, hRl, hRc, hRs⟩, rfl⟩ := g
  intro H locs ls hP hS hl
  exact lv_dup2_11 hx hb hd (by rw [om_cat]; exact hv) (by rw [om_cat]; exact hw) (k H locs ls hP hS hl)
theorem j_pop {own : Nat} {bytes : ByteArray} {mL d : Nat} {J : Nat → Lc → List Value → Mm → Prop} (g : Good own bytes mL d J) {pc : Nat} {L : Lc} {st : List Value} {M : Mm} {v : Value} (hd : decode bytes pc = .ok (.pop, 1)) (hv : v.category = 1) (k : J (pc + 1) L st M) : J pc L (v :: st) M := by
  obtain ⟨p, l, e, R, s, m, args, below, meth, c, cells, slots, Z, D, r, cA, A, ⟨hx, hb, hml, hown, hts, hK, hE, hD, hRf, hRl, hRc, hRs⟩, rfl⟩ := g
  intro H locs ls hP hS hl
  exact lv_pop hx hb hd (by rw [om_cat]; exact hv) (k H locs ls hP hS hl)
theorem j_goto {own : Nat} {bytes : ByteArray} {mL d : Nat} {J : Nat → Lc → List Value → Mm → Prop} (g : Good own bytes mL d J) {pc : Nat} {L : Lc} {st : List Value} {M : Mm} {off : Int} {tgt : Nat} (hd : decode bytes pc = .ok (.goto off, 3)) (ht : (pc : Int) + off = (tgt : Int)) (k : J tgt L st M) : J pc L st M := by
  obtain ⟨p, l, e, R, s, m, args, below, meth, c, cells, slots, Z, D, r, cA, A, ⟨hx, hb, hml, hown, hts, hK, hE, hD, hRf, hRl, hRc, hRs⟩, rfl⟩ := g
  intro H locs ls hP hS hl
  exact lv_goto hx hb hd ht (k H locs ls hP hS hl)
theorem j_icmp_eq {own : Nat} {bytes : ByteArray} {mL d : Nat} {J : Nat → Lc → List Value → Mm → Prop} (g : Good own bytes mL d J) {pc : Nat} {L : Lc} {st : List Value} {M : Mm} {x y : Int32} {off : Int} {tgt : Nat} (hd : decode bytes pc = .ok (.if_icmp .eq off, 3)) (ht : (pc : Int) + off = (tgt : Int)) (kt : x = y → J tgt L st M) (kf : ¬ (x = y) → J (pc + 3) L st M) : J pc L (.int y :: .int x :: st) M := by
  obtain ⟨p, l, e, R, s, m, args, below, meth, c, cells, slots, Z, D, r, cA, A, ⟨hx, hb, hml, hown, hts, hK, hE, hD, hRf, hRl, hRc, hRs⟩, rfl⟩ := g
  intro H locs ls hP hS hl
  exact lv_icmp_eq hx hb hd ht (fun q => kt (by first | exact q | simpa using q) H locs ls hP hS hl) (fun q => kf (by first | exact q | simpa using q) H locs ls hP hS hl)
theorem j_if_eq {own : Nat} {bytes : ByteArray} {mL d : Nat} {J : Nat → Lc → List Value → Mm → Prop} (g : Good own bytes mL d J) {pc : Nat} {L : Lc} {st : List Value} {M : Mm} {x : Int32} {off : Int} {tgt : Nat} (hd : decode bytes pc = .ok (.ifCond .eq off, 3)) (ht : (pc : Int) + off = (tgt : Int)) (kt : x = 0 → J tgt L st M) (kf : ¬ (x = 0) → J (pc + 3) L st M) : J pc L (.int x :: st) M := by
  obtain ⟨p, l, e, R, s, m, args, below, meth, c, cells, slots, Z, D, r, cA, A, ⟨hx, hb, hml, hown, hts, hK, hE, hD, hRf, hRl, hRc, hRs⟩, rfl⟩ := g
  intro H locs ls hP hS hl
  exact lv_if_eq hx hb hd ht (fun q => kt (by first | exact q | simpa using q) H locs ls hP hS hl) (fun q => kf (by first | exact q | simpa using q) H locs ls hP hS hl)
theorem j_icmp_ne {own : Nat} {bytes : ByteArray} {mL d : Nat} {J : Nat → Lc → List Value → Mm → Prop} (g : Good own bytes mL d J) {pc : Nat} {L : Lc} {st : List Value} {M : Mm} {x y : Int32} {off : Int} {tgt : Nat} (hd : decode bytes pc = .ok (.if_icmp .ne off, 3)) (ht : (pc : Int) + off = (tgt : Int)) (kt : ¬ x = y → J tgt L st M) (kf : ¬ (¬ x = y) → J (pc + 3) L st M) : J pc L (.int y :: .int x :: st) M := by
  obtain ⟨p, l, e, R, s, m, args, below, meth, c, cells, slots, Z, D, r, cA, A, ⟨hx, hb, hml, hown, hts, hK, hE, hD, hRf, hRl, hRc, hRs⟩, rfl⟩ := g
  intro H locs ls hP hS hl
  exact lv_icmp_ne hx hb hd ht (fun q => kt (by first | exact q | simpa using q) H locs ls hP hS hl) (fun q => kf (by first | exact q | simpa using q) H locs ls hP hS hl)
theorem j_if_ne {own : Nat} {bytes : ByteArray} {mL d : Nat} {J : Nat → Lc → List Value → Mm → Prop} (g : Good own bytes mL d J) {pc : Nat} {L : Lc} {st : List Value} {M : Mm} {x : Int32} {off : Int} {tgt : Nat} (hd : decode bytes pc = .ok (.ifCond .ne off, 3)) (ht : (pc : Int) + off = (tgt : Int)) (kt : ¬ x = 0 → J tgt L st M) (kf : ¬ (¬ x = 0) → J (pc + 3) L st M) : J pc L (.int x :: st) M := by
  obtain ⟨p, l, e, R, s, m, args, below, meth, c, cells, slots, Z, D, r, cA, A, ⟨hx, hb, hml, hown, hts, hK, hE, hD, hRf, hRl, hRc, hRs⟩, rfl⟩ := g
  intro H locs ls hP hS hl
  exact lv_if_ne hx hb hd ht (fun q => kt (by first | exact q | simpa using q) H locs ls hP hS hl) (fun q => kf (by first | exact q | simpa using q) H locs ls hP hS hl)
theorem j_icmp_lt {own : Nat} {bytes : ByteArray} {mL d : Nat} {J : Nat → Lc → List Value → Mm → Prop} (g : Good own bytes mL d J) {pc : Nat} {L : Lc} {st : List Value} {M : Mm} {x y : Int32} {off : Int} {tgt : Nat} (hd : decode bytes pc = .ok (.if_icmp .lt off, 3)) (ht : (pc : Int) + off = (tgt : Int)) (kt : x < y → J tgt L st M) (kf : ¬ (x < y) → J (pc + 3) L st M) : J pc L (.int y :: .int x :: st) M := by
  obtain ⟨p, l, e, R, s, m, args, below, meth, c, cells, slots, Z, D, r, cA, A, ⟨hx, hb, hml, hown, hts, hK, hE, hD, hRf, hRl, hRc, hRs⟩, rfl⟩ := g
  intro H locs ls hP hS hl
  exact lv_icmp_lt hx hb hd ht (fun q => kt (by first | exact q | simpa using q) H locs ls hP hS hl) (fun q => kf (by first | exact q | simpa using q) H locs ls hP hS hl)
theorem j_if_lt {own : Nat} {bytes : ByteArray} {mL d : Nat} {J : Nat → Lc → List Value → Mm → Prop} (g : Good own bytes mL d J) {pc : Nat} {L : Lc} {st : List Value} {M : Mm} {x : Int32} {off : Int} {tgt : Nat} (hd : decode bytes pc = .ok (.ifCond .lt off, 3)) (ht : (pc : Int) + off = (tgt : Int)) (kt : x < 0 → J tgt L st M) (kf : ¬ (x < 0) → J (pc + 3) L st M) : J pc L (.int x :: st) M := by
  obtain ⟨p, l, e, R, s, m, args, below, meth, c, cells, slots, Z, D, r, cA, A, ⟨hx, hb, hml, hown, hts, hK, hE, hD, hRf, hRl, hRc, hRs⟩, rfl⟩ := g
  intro H locs ls hP hS hl
  exact lv_if_lt hx hb hd ht (fun q => kt (by first | exact q | simpa using q) H locs ls hP hS hl) (fun q => kf (by first | exact q | simpa using q) H locs ls hP hS hl)
theorem j_icmp_ge {own : Nat} {bytes : ByteArray} {mL d : Nat} {J : Nat → Lc → List Value → Mm → Prop} (g : Good own bytes mL d J) {pc : Nat} {L : Lc} {st : List Value} {M : Mm} {x y : Int32} {off : Int} {tgt : Nat} (hd : decode bytes pc = .ok (.if_icmp .ge off, 3)) (ht : (pc : Int) + off = (tgt : Int)) (kt : y ≤ x → J tgt L st M) (kf : ¬ (y ≤ x) → J (pc + 3) L st M) : J pc L (.int y :: .int x :: st) M := by
  obtain ⟨p, l, e, R, s, m, args, below, meth, c, cells, slots, Z, D, r, cA, A, ⟨hx, hb, hml, hown, hts, hK, hE, hD, hRf, hRl, hRc, hRs⟩, rfl⟩ := g
  intro H locs ls hP hS hl
  exact lv_icmp_ge hx hb hd ht (fun q => kt (by first | exact q | simpa using q) H locs ls hP hS hl) (fun q => kf (by first | exact q | simpa using q) H locs ls hP hS hl)
theorem j_if_ge {own : Nat} {bytes : ByteArray} {mL d : Nat} {J : Nat → Lc → List Value → Mm → Prop} (g : Good own bytes mL d J) {pc : Nat} {L : Lc} {st : List Value} {M : Mm} {x : Int32} {off : Int} {tgt : Nat} (hd : decode bytes pc = .ok (.ifCond .ge off, 3)) (ht : (pc : Int) + off = (tgt : Int)) (kt : 0 ≤ x → J tgt L st M) (kf : ¬ (0 ≤ x) → J (pc + 3) L st M) : J pc L (.int x :: st) M := by
  obtain ⟨p, l, e, R, s, m, args, below, meth, c, cells, slots, Z, D, r, cA, A, ⟨hx, hb, hml, hown, hts, hK, hE, hD, hRf, hRl, hRc, hRs⟩, rfl⟩ := g
  intro H locs ls hP hS hl
  exact lv_if_ge hx hb hd ht (fun q => kt (by first | exact q | simpa using q) H locs ls hP hS hl) (fun q => kf (by first | exact q | simpa using q) H locs ls hP hS hl)
theorem j_icmp_gt {own : Nat} {bytes : ByteArray} {mL d : Nat} {J : Nat → Lc → List Value → Mm → Prop} (g : Good own bytes mL d J) {pc : Nat} {L : Lc} {st : List Value} {M : Mm} {x y : Int32} {off : Int} {tgt : Nat} (hd : decode bytes pc = .ok (.if_icmp .gt off, 3)) (ht : (pc : Int) + off = (tgt : Int)) (kt : y < x → J tgt L st M) (kf : ¬ (y < x) → J (pc + 3) L st M) : J pc L (.int y :: .int x :: st) M := by
  obtain ⟨p, l, e, R, s, m, args, below, meth, c, cells, slots, Z, D, r, cA, A, ⟨hx, hb, hml, hown, hts, hK, hE, hD, hRf, hRl, hRc, hRs⟩, rfl⟩ := g
  intro H locs ls hP hS hl
  exact lv_icmp_gt hx hb hd ht (fun q => kt (by first | exact q | simpa using q) H locs ls hP hS hl) (fun q => kf (by first | exact q | simpa using q) H locs ls hP hS hl)
theorem j_if_gt {own : Nat} {bytes : ByteArray} {mL d : Nat} {J : Nat → Lc → List Value → Mm → Prop} (g : Good own bytes mL d J) {pc : Nat} {L : Lc} {st : List Value} {M : Mm} {x : Int32} {off : Int} {tgt : Nat} (hd : decode bytes pc = .ok (.ifCond .gt off, 3)) (ht : (pc : Int) + off = (tgt : Int)) (kt : 0 < x → J tgt L st M) (kf : ¬ (0 < x) → J (pc + 3) L st M) : J pc L (.int x :: st) M := by
  obtain ⟨p, l, e, R, s, m, args, below, meth, c, cells, slots, Z, D, r, cA, A, ⟨hx, hb, hml, hown, hts, hK, hE, hD, hRf, hRl, hRc, hRs⟩, rfl⟩ := g
  intro H locs ls hP hS hl
  exact lv_if_gt hx hb hd ht (fun q => kt (by first | exact q | simpa using q) H locs ls hP hS hl) (fun q => kf (by first | exact q | simpa using q) H locs ls hP hS hl)
theorem j_icmp_le {own : Nat} {bytes : ByteArray} {mL d : Nat} {J : Nat → Lc → List Value → Mm → Prop} (g : Good own bytes mL d J) {pc : Nat} {L : Lc} {st : List Value} {M : Mm} {x y : Int32} {off : Int} {tgt : Nat} (hd : decode bytes pc = .ok (.if_icmp .le off, 3)) (ht : (pc : Int) + off = (tgt : Int)) (kt : x ≤ y → J tgt L st M) (kf : ¬ (x ≤ y) → J (pc + 3) L st M) : J pc L (.int y :: .int x :: st) M := by
  obtain ⟨p, l, e, R, s, m, args, below, meth, c, cells, slots, Z, D, r, cA, A, ⟨hx, hb, hml, hown, hts, hK, hE, hD, hRf, hRl, hRc, hRs⟩, rfl⟩ := g
  intro H locs ls hP hS hl
  exact lv_icmp_le hx hb hd ht (fun q => kt (by first | exact q | simpa using q) H locs ls hP hS hl) (fun q => kf (by first | exact q | simpa using q) H locs ls hP hS hl)
theorem j_if_le {own : Nat} {bytes : ByteArray} {mL d : Nat} {J : Nat → Lc → List Value → Mm → Prop} (g : Good own bytes mL d J) {pc : Nat} {L : Lc} {st : List Value} {M : Mm} {x : Int32} {off : Int} {tgt : Nat} (hd : decode bytes pc = .ok (.ifCond .le off, 3)) (ht : (pc : Int) + off = (tgt : Int)) (kt : x ≤ 0 → J tgt L st M) (kf : ¬ (x ≤ 0) → J (pc + 3) L st M) : J pc L (.int x :: st) M := by
  obtain ⟨p, l, e, R, s, m, args, below, meth, c, cells, slots, Z, D, r, cA, A, ⟨hx, hb, hml, hown, hts, hK, hE, hD, hRf, hRl, hRc, hRs⟩, rfl⟩ := g
  intro H locs ls hP hS hl
  exact lv_if_le hx hb hd ht (fun q => kt (by first | exact q | simpa using q) H locs ls hP hS hl) (fun q => kf (by first | exact q | simpa using q) H locs ls hP hS hl)
theorem j_tableIn {own : Nat} {bytes : ByteArray} {mL d : Nat} {J : Nat → Lc → List Value → Mm → Prop} (g : Good own bytes mL d J) {pc : Nat} {L : Lc} {st : List Value} {M : Mm} {dflt lo hi : Int} {offs : Array Int} {len : Nat} {x : Int32} {off : Int} {tgt : Nat} (hd : decode bytes pc = .ok (.tableswitch dflt lo hi offs, len)) (h1 : ¬ x.toInt < lo) (h2 : ¬ hi < x.toInt) (ho : offs[(x.toInt - lo).toNat]? = some off) (ht : (pc : Int) + off = (tgt : Int)) (k : J tgt L st M) : J pc L (.int x :: st) M := by
  obtain ⟨p, l, e, R, s, m, args, below, meth, c, cells, slots, Z, D, r, cA, A, ⟨hx, hb, hml, hown, hts, hK, hE, hD, hRf, hRl, hRc, hRs⟩, rfl⟩ := g
  intro H locs ls hP hS hl
  exact lv_tableIn hx hb hd h1 h2 ho ht (k H locs ls hP hS hl)
theorem j_tableOut {own : Nat} {bytes : ByteArray} {mL d : Nat} {J : Nat → Lc → List Value → Mm → Prop} (g : Good own bytes mL d J) {pc : Nat} {L : Lc} {st : List Value} {M : Mm} {dflt lo hi : Int} {offs : Array Int} {len : Nat} {x : Int32} {tgt : Nat} (hd : decode bytes pc = .ok (.tableswitch dflt lo hi offs, len)) (h : x.toInt < lo ∨ hi < x.toInt) (ht : (pc : Int) + dflt = (tgt : Int)) (k : J tgt L st M) : J pc L (.int x :: st) M := by
  obtain ⟨p, l, e, R, s, m, args, below, meth, c, cells, slots, Z, D, r, cA, A, ⟨hx, hb, hml, hown, hts, hK, hE, hD, hRf, hRl, hRc, hRs⟩, rfl⟩ := g
  intro H locs ls hP hS hl
  exact lv_tableOut hx hb hd h ht (k H locs ls hP hS hl)
theorem j_lookup {own : Nat} {bytes : ByteArray} {mL d : Nat} {J : Nat → Lc → List Value → Mm → Prop} (g : Good own bytes mL d J) {pc : Nat} {L : Lc} {st : List Value} {M : Mm} {dflt : Int} {ps : Array (Int × Int)} {len : Nat} {x : Int32} {off : Int} {tgt : Nat} (hd : decode bytes pc = .ok (.lookupswitch dflt ps, len)) (hp : (ps.toList.zip (ps.toList.drop 1)).all (fun (a, next) => a.1 < next.1) = true) (ho : Op.lookupswitch.offset ps.toList dflt x.toInt = off) (ht : (pc : Int) + off = (tgt : Int)) (k : J tgt L st M) : J pc L (.int x :: st) M := by
  obtain ⟨p, l, e, R, s, m, args, below, meth, c, cells, slots, Z, D, r, cA, A, ⟨hx, hb, hml, hown, hts, hK, hE, hD, hRf, hRl, hRc, hRs⟩, rfl⟩ := g
  intro H locs ls hP hS hl
  exact lv_lookup hx hb hd hp ho ht (k H locs ls hP hS hl)
/-- an own field, by its class and place -/
def FL (own idx ci k : Nat) : Prop := ∃ q : vw_C, om_cl[ci]? = some q ∧ k < q.2.2 ∧ Cond.fieldLink (om_own own) idx (q.2.1 k).1 (q.2.1 k).2.1 (q.2.1 k).2.2.1 ∈ BIG
theorem j_getf {own : Nat} {bytes : ByteArray} {mL d : Nat} {J : Nat → Lc → List Value → Mm → Prop} (g : Good own bytes mL d J) {pc : Nat} {L : Lc} {st : List Value} {M : Mm} {idx ci k a : Nat} (hf : FL own idx ci k) (ha : gk a = ci) (hd : decode bytes pc = .ok (.getfield idx, 3)) (kk : J (pc + 3) L (om_fv id M a ci k :: st) M) : J pc L (.ref a :: st) M := by
  obtain ⟨p, l, e, R, s, m, args, below, meth, c, cells, slots, Z, D, r, cA, A, ⟨hx, hb, hml, hown, hts, hK, hE, hD, hRf, hRl, hRc, hRs⟩, rfl⟩ := g
  intro H locs ls hP hS hl
  obtain ⟨q, hq, hk, hlk⟩ := hf
  obtain ⟨hin, hty, hnm, -, hci⟩ := om_in ci q hq
  obtain ⟨i, hi⟩ := gk_at ha (by omega)
  have hw := ws_at (r := r) (cA := cA) (M := M) hi
  rw [om_cell_obj hci] at hw
  refine va_get hx hb hts hin hown hK hP i hw hq k hk (hts _ hlk) (fun _ h => h) (v := om_cv r (om_fv id M a ci k)) ?_ hd (kk H locs ls hP hS hl)
  rw [List.getElem?_map, List.getElem?_range (by rw [om_nf_eq hq]; exact hk)]
  exact congrArg some (om_fv_id r M a ci k).symm
theorem j_putI {own : Nat} {bytes : ByteArray} {mL d : Nat} {J : Nat → Lc → List Value → Mm → Prop} (g : Good own bytes mL d J) {pc : Nat} {L : Lc} {st : List Value} {M : Mm} {idx ci k a : Nat} {v : Int32} (hf : FL own idx ci k) (hfin : ∀ q, om_cl[ci]? = some q → (q.2.1 k).2.2.2 = false) (ht : (om_ty ci k = .int ∨ (om_ty ci k = .boolean ∧ (v = 0 ∨ v = 1)))) (ha : gk a = ci) (hd : decode bytes pc = .ok (.putfield idx, 3)) (kk : J (pc + 3) L st (wi M a k v)) : J pc L (.int v :: .ref a :: st) M := by
  obtain ⟨p, l, e, R, s, m, args, below, meth, c, cells, slots, Z, D, r, cA, A, ⟨hx, hb, hml, hown, hts, hK, hE, hD, hRf, hRl, hRc, hRs⟩, rfl⟩ := g
  intro H locs ls hP hS hl
  obtain ⟨q, hq, hk, hlk⟩ := hf
  obtain ⟨hin, hty, hnm, -, hci⟩ := om_in ci q hq
  obtain ⟨i, hi⟩ := gk_at ha (by omega)
  have hw := ws_at (r := r) (cA := cA) (M := M) hi
  rw [om_cell_obj hci] at hw
  have hn : narrow (om_ty ci k) (.int v) = .int v ∧ fits (om_ty ci k) (.int v) = true := om_narI ht
  refine va_put hx hb hts hin (om_ty ci) hty hnm hown hK hP hD hS i hw hq k hk (hts _ hlk) (fun _ h => h) (hfin q hq) (hty k hk) hn.1 hn.2 (by rw [List.length_map, List.length_range, om_nf_eq hq]; exact hk) hd (fun H1 locs1 hP1 hD1 hS1 => ?_)
  refine kk H1 locs1 ls ?_ hS1 hl
  rw [← ws_set (r := r) (cA := cA) (M := M) (c := .inr (ci, ((List.range (om_nf ci)).map (om_fv r M a ci)).set k (.int v))) hi ?_ (wi_ne M a k v)]
  · exact hP1
  · rw [om_cell_obj hci]
    exact congrArg (fun z => Sum.inr (ci, z)) (om_setI (by rw [om_nf_eq hq]; exact hk) ht)
theorem j_putJ {own : Nat} {bytes : ByteArray} {mL d : Nat} {J : Nat → Lc → List Value → Mm → Prop} (g : Good own bytes mL d J) {pc : Nat} {L : Lc} {st : List Value} {M : Mm} {idx ci k a : Nat} {v : Int64} (hf : FL own idx ci k) (hfin : ∀ q, om_cl[ci]? = some q → (q.2.1 k).2.2.2 = false) (ht : om_ty ci k = .long) (ha : gk a = ci) (hd : decode bytes pc = .ok (.putfield idx, 3)) (kk : J (pc + 3) L st (wl M a k v)) : J pc L (.long v :: .ref a :: st) M := by
  obtain ⟨p, l, e, R, s, m, args, below, meth, c, cells, slots, Z, D, r, cA, A, ⟨hx, hb, hml, hown, hts, hK, hE, hD, hRf, hRl, hRc, hRs⟩, rfl⟩ := g
  intro H locs ls hP hS hl
  obtain ⟨q, hq, hk, hlk⟩ := hf
  obtain ⟨hin, hty, hnm, -, hci⟩ := om_in ci q hq
  obtain ⟨i, hi⟩ := gk_at ha (by omega)
  have hw := ws_at (r := r) (cA := cA) (M := M) hi
  rw [om_cell_obj hci] at hw
  have hn : narrow (om_ty ci k) (.long v) = .long v ∧ fits (om_ty ci k) (.long v) = true := om_narJ ht
  refine va_put hx hb hts hin (om_ty ci) hty hnm hown hK hP hD hS i hw hq k hk (hts _ hlk) (fun _ h => h) (hfin q hq) (hty k hk) hn.1 hn.2 (by rw [List.length_map, List.length_range, om_nf_eq hq]; exact hk) hd (fun H1 locs1 hP1 hD1 hS1 => ?_)
  refine kk H1 locs1 ls ?_ hS1 hl
  rw [← ws_set (r := r) (cA := cA) (M := M) (c := .inr (ci, ((List.range (om_nf ci)).map (om_fv r M a ci)).set k (.long v))) hi ?_ (wl_ne M a k v)]
  · exact hP1
  · rw [om_cell_obj hci]
    exact congrArg (fun z => Sum.inr (ci, z)) (om_setJ (by rw [om_nf_eq hq]; exact hk) ht)
theorem j_iaload {own : Nat} {bytes : ByteArray} {mL d : Nat} {J : Nat → Lc → List Value → Mm → Prop} (g : Good own bytes mL d J) {pc : Nat} {L : Lc} {st : List Value} {M : Mm} {a : Nat} {i : Int32} (ha : gk a = 10) (hi : vp_in i (gl a)) (hd : decode bytes pc = .ok (.iaload, 1)) (kk : J (pc + 1) L (.int (M.1 a i.toNatClampNeg) :: st) M) : J pc L (.int i :: .ref a :: st) M := by
  obtain ⟨p, l, e, R, s, m, args, below, meth, c, cells, slots, Z, D, r, cA, A, ⟨hx, hb, hml, hown, hts, hK, hE, hD, hRf, hRl, hRc, hRs⟩, rfl⟩ := g
  intro H locs ls hP hS hl
  obtain ⟨q, hq⟩ := gk_at ha (by omega)
  have hw := ws_at (r := r) (cA := cA) (M := M) hq
  exact va_iald hx hb hK hP q 1 hw rfl hi hd (kk H locs ls hP hS hl)
theorem j_baload {own : Nat} {bytes : ByteArray} {mL d : Nat} {J : Nat → Lc → List Value → Mm → Prop} (g : Good own bytes mL d J) {pc : Nat} {L : Lc} {st : List Value} {M : Mm} {a : Nat} {i : Int32} (ha : gk a = 9) (hi : vp_in i (gl a)) (hd : decode bytes pc = .ok (.baload, 1)) (kk : J (pc + 1) L (.int (M.1 a i.toNatClampNeg) :: st) M) : J pc L (.int i :: .ref a :: st) M := by
  obtain ⟨p, l, e, R, s, m, args, below, meth, c, cells, slots, Z, D, r, cA, A, ⟨hx, hb, hml, hown, hts, hK, hE, hD, hRf, hRl, hRc, hRs⟩, rfl⟩ := g
  intro H locs ls hP hS hl
  obtain ⟨q, hq⟩ := gk_at ha (by omega)
  have hw := ws_at (r := r) (cA := cA) (M := M) hq
  exact va_bald hx hb hK hP q 0 hw rfl hi hd (kk H locs ls hP hS hl)
theorem j_laload {own : Nat} {bytes : ByteArray} {mL d : Nat} {J : Nat → Lc → List Value → Mm → Prop} (g : Good own bytes mL d J) {pc : Nat} {L : Lc} {st : List Value} {M : Mm} {a : Nat} {i : Int32} (ha : gk a = 11) (hi : vp_in i (gl a)) (hd : decode bytes pc = .ok (.laload, 1)) (kk : J (pc + 1) L (.long (M.2 a i.toNatClampNeg) :: st) M) : J pc L (.int i :: .ref a :: st) M := by
  obtain ⟨p, l, e, R, s, m, args, below, meth, c, cells, slots, Z, D, r, cA, A, ⟨hx, hb, hml, hown, hts, hK, hE, hD, hRf, hRl, hRc, hRs⟩, rfl⟩ := g
  intro H locs ls hP hS hl
  obtain ⟨q, hq⟩ := gk_at ha (by omega)
  have hw := ws_at (r := r) (cA := cA) (M := M) hq
  exact va_lald hx hb hK hP q 2 hw rfl hi hd (kk H locs ls hP hS hl)
theorem j_iastore {own : Nat} {bytes : ByteArray} {mL d : Nat} {J : Nat → Lc → List Value → Mm → Prop} (g : Good own bytes mL d J) {pc : Nat} {L : Lc} {st : List Value} {M : Mm} {a : Nat} {i : Int32} {x : Int32} (ha : gk a = 10) (hi : vp_in i (gl a)) (hd : decode bytes pc = .ok (.iastore, 1)) (kk : J (pc + 1) L st (wi M a i.toNatClampNeg x)) : J pc L (.int x :: .int i :: .ref a :: st) M := by
  obtain ⟨p, l, e, R, s, m, args, below, meth, c, cells, slots, Z, D, r, cA, A, ⟨hx, hb, hml, hown, hts, hK, hE, hD, hRf, hRl, hRc, hRs⟩, rfl⟩ := g
  intro H locs ls hP hS hl
  obtain ⟨q, hq⟩ := gk_at ha (by omega)
  have hw := ws_at (r := r) (cA := cA) (M := M) hq
  refine va_iast hx hb hK hP hD hS q 1 hw rfl hi hd (fun H1 locs1 hP1 hD1 hS1 => ?_)
  refine kk H1 locs1 ls ?_ hS1 hl
  rw [← ws_set (r := r) (cA := cA) (M := M) (c := .inl (cA 10, gl a, .inl (upd (M.1 a) i.toNatClampNeg x))) hq ?_ (wi_ne M a i.toNatClampNeg x)]
  · exact hP1
  · rw [← wi_row]
    rfl
theorem j_bastore {own : Nat} {bytes : ByteArray} {mL d : Nat} {J : Nat → Lc → List Value → Mm → Prop} (g : Good own bytes mL d J) {pc : Nat} {L : Lc} {st : List Value} {M : Mm} {a : Nat} {i : Int32} {x : Int32} (ha : gk a = 9) (hi : vp_in i (gl a)) (hd : decode bytes pc = .ok (.bastore, 1)) (kk : J (pc + 1) L st (wi M a i.toNatClampNeg (vp_nar .byte x))) : J pc L (.int x :: .int i :: .ref a :: st) M := by
  obtain ⟨p, l, e, R, s, m, args, below, meth, c, cells, slots, Z, D, r, cA, A, ⟨hx, hb, hml, hown, hts, hK, hE, hD, hRf, hRl, hRc, hRs⟩, rfl⟩ := g
  intro H locs ls hP hS hl
  obtain ⟨q, hq⟩ := gk_at ha (by omega)
  have hw := ws_at (r := r) (cA := cA) (M := M) hq
  refine va_bast hx hb hK hP hD hS q 0 hw rfl hi hd (fun H1 locs1 hP1 hD1 hS1 => ?_)
  refine kk H1 locs1 ls ?_ hS1 hl
  rw [← ws_set (r := r) (cA := cA) (M := M) (c := .inl (cA 9, gl a, .inl (upd (M.1 a) i.toNatClampNeg (vp_nar .byte x)))) hq ?_ (wi_ne M a i.toNatClampNeg (vp_nar .byte x))]
  · exact hP1
  · rw [← wi_row]
    rfl
theorem j_lastore {own : Nat} {bytes : ByteArray} {mL d : Nat} {J : Nat → Lc → List Value → Mm → Prop} (g : Good own bytes mL d J) {pc : Nat} {L : Lc} {st : List Value} {M : Mm} {a : Nat} {i : Int32} {x : Int64} (ha : gk a = 11) (hi : vp_in i (gl a)) (hd : decode bytes pc = .ok (.lastore, 1)) (kk : J (pc + 1) L st (wl M a i.toNatClampNeg x)) : J pc L (.long x :: .int i :: .ref a :: st) M := by
  obtain ⟨p, l, e, R, s, m, args, below, meth, c, cells, slots, Z, D, r, cA, A, ⟨hx, hb, hml, hown, hts, hK, hE, hD, hRf, hRl, hRc, hRs⟩, rfl⟩ := g
  intro H locs ls hP hS hl
  obtain ⟨q, hq⟩ := gk_at ha (by omega)
  have hw := ws_at (r := r) (cA := cA) (M := M) hq
  refine va_last hx hb hK hP hD hS q 2 hw rfl hi hd (fun H1 locs1 hP1 hD1 hS1 => ?_)
  refine kk H1 locs1 ls ?_ hS1 hl
  rw [← ws_set (r := r) (cA := cA) (M := M) (c := .inl (cA 11, gl a, .inr (.inl (vp_updL (M.2 a) i.toNatClampNeg x)))) hq ?_ (wl_ne M a i.toNatClampNeg x)]
  · exact hP1
  · rw [← wl_row]
    rfl
theorem j_aaloadS {own : Nat} {bytes : ByteArray} {mL d : Nat} {J : Nat → Lc → List Value → Mm → Prop} (g : Good own bytes mL d J) {pc : Nat} {L : Lc} {st : List Value} {M : Mm} {a : Nat} {i : Int32} (ha : gk a = 12) (hi : vp_in i (gl a)) (hd : decode bytes pc = .ok (.aaload, 1)) (kk : J (pc + 1) L (.ref (rf a i.toNatClampNeg) :: st) M) : J pc L (.int i :: .ref a :: st) M := by
  obtain ⟨p, l, e, R, s, m, args, below, meth, c, cells, slots, Z, D, r, cA, A, ⟨hx, hb, hml, hown, hts, hK, hE, hD, hRf, hRl, hRc, hRs⟩, rfl⟩ := g
  intro H locs ls hP hS hl
  obtain ⟨q, hq⟩ := gk_at ha (by omega)
  have hw := ws_at (r := r) (cA := cA) (M := M) hq
  have hlt : i.toNatClampNeg < gl a := Nat.not_le.mp fun z => hi (Or.inr z)
  have hc0 : H[r a]? = some (vp_cell (cA 12) (gl a, .inr (.inr (.inr (.inr (fun j => some (r (rf a j)))))))) := hP q _ hw
  exact W.aald (v := .ref (r (rf a i.toNatClampNeg))) (ty := .object RX3) hx hb hc0 ((hK.2 3 (cA 12, .object RX3) rfl).1 (gl a) (fun j => va_rf (some (r (rf a j))))) rfl (fun z => by cases z) (by show ¬ (i < 0 ∨ (arrV _ _ _).slots.size ≤ _); rw [arrV_size]; exact hi) (by show (arrV _ _ _).slots[_]? = _; rw [arrV_read _ _ hlt]; rfl) rfl rfl hd (kk H locs ls hP hS hl)
theorem j_aaloadW {own : Nat} {bytes : ByteArray} {mL d : Nat} {J : Nat → Lc → List Value → Mm → Prop} (g : Good own bytes mL d J) {pc : Nat} {L : Lc} {st : List Value} {M : Mm} {a : Nat} {i : Int32} (ha : gk a = 13) (hi : vp_in i (gl a)) (hd : decode bytes pc = .ok (.aaload, 1)) (kk : J (pc + 1) L (.ref (rf a i.toNatClampNeg) :: st) M) : J pc L (.int i :: .ref a :: st) M := by
  obtain ⟨p, l, e, R, s, m, args, below, meth, c, cells, slots, Z, D, r, cA, A, ⟨hx, hb, hml, hown, hts, hK, hE, hD, hRf, hRl, hRc, hRs⟩, rfl⟩ := g
  intro H locs ls hP hS hl
  obtain ⟨q, hq⟩ := gk_at ha (by omega)
  have hw := ws_at (r := r) (cA := cA) (M := M) hq
  have hlt : i.toNatClampNeg < gl a := Nat.not_le.mp fun z => hi (Or.inr z)
  have hc0 : H[r a]? = some (vp_cell (cA 13) (gl a, .inr (.inr (.inr (.inr (fun j => some (r (rf a j)))))))) := hP q _ hw
  exact W.aald (v := .ref (r (rf a i.toNatClampNeg))) (ty := .object RX6) hx hb hc0 ((hK.2 4 (cA 13, .object RX6) rfl).1 (gl a) (fun j => va_rf (some (r (rf a j))))) rfl (fun z => by cases z) (by show ¬ (i < 0 ∨ (arrV _ _ _).slots.size ≤ _); rw [arrV_size]; exact hi) (by show (arrV _ _ _).slots[_]? = _; rw [arrV_read _ _ hlt]; rfl) rfl rfl hd (kk H locs ls hP hS hl)
theorem j_aaloadR {own : Nat} {bytes : ByteArray} {mL d : Nat} {J : Nat → Lc → List Value → Mm → Prop} (g : Good own bytes mL d J) {pc : Nat} {L : Lc} {st : List Value} {M : Mm} {a : Nat} {i : Int32} (ha : gk a = 14) (hi : vp_in i (gl a)) (hd : decode bytes pc = .ok (.aaload, 1)) (kk : J (pc + 1) L (.ref (rf a i.toNatClampNeg) :: st) M) : J pc L (.int i :: .ref a :: st) M := by
  obtain ⟨p, l, e, R, s, m, args, below, meth, c, cells, slots, Z, D, r, cA, A, ⟨hx, hb, hml, hown, hts, hK, hE, hD, hRf, hRl, hRc, hRs⟩, rfl⟩ := g
  intro H locs ls hP hS hl
  obtain ⟨q, hq⟩ := gk_at ha (by omega)
  have hw := ws_at (r := r) (cA := cA) (M := M) hq
  have hlt : i.toNatClampNeg < gl a := Nat.not_le.mp fun z => hi (Or.inr z)
  have hc0 : H[r a]? = some (vp_cell (cA 14) (gl a, .inr (.inr (.inr (.inr (fun j => some (r (rf a j)))))))) := hP q _ hw
  exact W.aald (v := .ref (r (rf a i.toNatClampNeg))) (ty := .array .long) hx hb hc0 ((hK.2 5 (cA 14, .array .long) rfl).1 (gl a) (fun j => va_rf (some (r (rf a j))))) rfl (fun z => by cases z) (by show ¬ (i < 0 ∨ (arrV _ _ _).slots.size ≤ _); rw [arrV_size]; exact hi) (by show (arrV _ _ _).slots[_]? = _; rw [arrV_read _ _ hlt]; rfl) rfl rfl hd (kk H locs ls hP hS hl)
theorem j_mmax {own : Nat} {bytes : ByteArray} {mL d : Nat} {J : Nat → Lc → List Value → Mm → Prop} (g : Good own bytes mL d J) {pc : Nat} {L : Lc} {st : List Value} {M : Mm} {x y : Int32} {idx : Nat} (h1 : 1 ≤ d) (hW : (st.map fun v => v.category).sum ≤ 8) (hlk : Cond.methodLink (om_own own) idx Lib.Math.max.name ∈ BIG) (hd : decode bytes pc = .ok (.invokestatic idx, 3)) (k : J (pc + 3) L (.int (if x < y then y else x) :: st) M) : J pc L (.int y :: .int x :: st) M := by
  obtain ⟨p, l, e, R, s, m, args, below, meth, c, cells, slots, Z, D, r, cA, A, ⟨hx, hb, hml, hown, hts, hK, hE, hD, hRf, hRl, hRc, hRs⟩, rfl⟩ := g
  intro H locs ls hP hS hl
  exact va_mmax hx hb (hml.trans hl.1.symm) hown (hts _ hlk) (hts _ om_mmax.1) (hts _ om_mmax.2.1) (hts _ om_mmax.2.2) (by omega) (by rw [om_cats]; omega) hRc hRs hd (k H locs ls hP hS hl)
theorem j_mmin {own : Nat} {bytes : ByteArray} {mL d : Nat} {J : Nat → Lc → List Value → Mm → Prop} (g : Good own bytes mL d J) {pc : Nat} {L : Lc} {st : List Value} {M : Mm} {x y : Int32} {idx : Nat} (h1 : 1 ≤ d) (hW : (st.map fun v => v.category).sum ≤ 8) (hlk : Cond.methodLink (om_own own) idx Lib.Math.min.name ∈ BIG) (hd : decode bytes pc = .ok (.invokestatic idx, 3)) (k : J (pc + 3) L (.int (if y < x then y else x) :: st) M) : J pc L (.int y :: .int x :: st) M := by
  obtain ⟨p, l, e, R, s, m, args, below, meth, c, cells, slots, Z, D, r, cA, A, ⟨hx, hb, hml, hown, hts, hK, hE, hD, hRf, hRl, hRc, hRs⟩, rfl⟩ := g
  intro H locs ls hP hS hl
  exact va_mmin hx hb (hml.trans hl.1.symm) hown (hts _ hlk) (hts _ om_mmin.1) (hts _ om_mmin.2.1) (hts _ om_mmin.2.2) (by omega) (by rw [om_cats]; omega) hRc hRs hd (k H locs ls hP hS hl)
theorem j_mabs {own : Nat} {bytes : ByteArray} {mL d : Nat} {J : Nat → Lc → List Value → Mm → Prop} (g : Good own bytes mL d J) {pc : Nat} {L : Lc} {st : List Value} {M : Mm} {x : Int32} {idx : Nat} (h1 : 1 ≤ d) (hW : (st.map fun v => v.category).sum ≤ 8) (hlk : Cond.methodLink (om_own own) idx Lib.Math.abs.name ∈ BIG) (hd : decode bytes pc = .ok (.invokestatic idx, 3)) (k : J (pc + 3) L (.int (if 0 ≤ x then x else 0 - x) :: st) M) : J pc L (.int x :: st) M := by
  obtain ⟨p, l, e, R, s, m, args, below, meth, c, cells, slots, Z, D, r, cA, A, ⟨hx, hb, hml, hown, hts, hK, hE, hD, hRf, hRl, hRc, hRs⟩, rfl⟩ := g
  intro H locs ls hP hS hl
  exact va_mabs hx hb (hml.trans hl.1.symm) hown (hts _ hlk) (hts _ om_mabs.1) (hts _ om_mabs.2.1) (hts _ om_mabs.2.2) (by omega) (by rw [om_cats]; omega) hRc hRs hd (k H locs ls hP hS hl)
theorem j_copy {own : Nat} {bytes : ByteArray} {mL d : Nat} {J : Nat → Lc → List Value → Mm → Prop} (g : Good own bytes mL d J) {pc : Nat} {L : Lc} {st : List Value} {M : Mm} {a b : Nat} {sp dp n : Int32} {idx : Nat} (h1 : 1 ≤ d) (hW : (st.map fun v => v.category).sum ≤ 8) (hlk : Cond.methodLink (om_own own) idx arraycopyName ∈ BIG) (ha : gk a = 10) (hb' : gk b = 10) (hsp : ¬ sp < 0) (hdp : ¬ dp < 0) (hn : ¬ n < 0) (h4 : sp.toNatClampNeg + n.toNatClampNeg ≤ gl a) (h5 : dp.toNatClampNeg + n.toNatClampNeg ≤ gl b) (hd : decode bytes pc = .ok (.invokestatic idx, 3)) (k : J (pc + 3) L st (cpi M a b sp.toNatClampNeg dp.toNatClampNeg n.toNatClampNeg)) : J pc L (.int n :: .int dp :: .ref b :: .int sp :: .ref a :: st) M := by
  obtain ⟨p, l, e, R, s, m, args, below, meth, c, cells, slots, Z, D, r, cA, A, ⟨hx, hb, hml, hown, hts, hK, hE, hD, hRf, hRl, hRc, hRs⟩, rfl⟩ := g
  intro H locs ls hP hS hl
  obtain ⟨q, hq⟩ := gk_at ha (by omega)
  have hw := ws_at (r := r) (cA := cA) (M := M) hq
  obtain ⟨q2, hq2⟩ := gk_at hb' (by omega)
  have hw2 := ws_at (r := r) (cA := cA) (M := M) hq2
  have hnf : nativeFrameWords "java/lang/System" "arraycopy" 5 ≤ 40 := by decide +kernel
  refine va_copyi hx hb (hml.trans hl.1.symm) hown (hts _ hlk) (hts _ om_copy.1) (hts _ om_copy.2.1) (hts _ om_copy.2.2) hK hP hD hS q q2 1 1 (ty := .int) hw hw2 rfl rfl rfl hsp hdp hn h4 h5 (fun i _ => rfl) (by omega) (by rw [om_cats]; omega) hd (fun H1 locs1 hP1 hD1 hS1 => ?_)
  refine k H1 locs1 ls ?_ hS1 hl
  rw [← ws_set (r := r) (cA := cA) (M := M) (c := .inl (cA 10, gl b, .inl (va_cpy (M.1 a) (M.1 b) sp.toNatClampNeg dp.toNatClampNeg n.toNatClampNeg))) hq2 ?_ (cpi_ne M a b sp.toNatClampNeg dp.toNatClampNeg n.toNatClampNeg)]
  · exact hP1
  · rw [← cpi_row]
    rfl
