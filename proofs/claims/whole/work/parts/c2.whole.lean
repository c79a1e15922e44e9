/-! THE CLAIM OUT OF ONE WALK OF THE LAW'S BODY. Your part is whole_start (and what it stands on); all else here is the same for every law, but numbers. -/
def R_law : String := "OneMovesLaw"
def lw_P (b : Addr) (xs : List Int32) (args : Array Value) (s : State) : Prop := args = #[.ref b] ∧ s.IntsAt b xs ∧ xs.length ≤ 448 ∧ (Jvm.Cond.and given_1 narrow_1).before args s = true
def lw_Q (_ : Array Value) (s : State) (o : Outcome) (t : State) : Prop := o = .returned (some (.int 1)) ∧ Framed s o t [] 600000 7302250
def lw_Z (below : List Frame) (a : Array Value) (s : State) : State → Prop := fun t => ∃ o, t.status = .running ∧ Ended t below o ∧ lw_Q a s o t
/-- the law's own end, with 1 on the stack, nothing written that was there before, its room as the claim has it -/
theorem lw_ret {p : Program} {l : Launch} {e : Env} {s : State} {m : MethodId} {below : List Frame} {meth : Method} {c : Code} {b : Nat} (hx : p.tables.exec = Jvm.exec) (hb : c.code = code) (hr : meth.sig.returnType = ret) (hlocks : meth.locks = false) {pc : Nat} {H : Heap} {ls : Array Slot} (hdg : decode code pc = .ok (.ireturn, 1)) : W p l e room_1 s m #[Value.ref b] below meth c H [] 600000 7302250 (lw_Z below #[Value.ref b] s) (F0 m pc ls [.int 1]) := by
  intro T hT X
  obtain ⟨fs, hret, hrun, hended, hW, hframe⟩ := X.leave (v := some (.int 1)) (hlocks := hlocks) (fun h => by rw [hr] at h; cases h)
  have hmeth' : T.vm.method? m = some meth := X.method'
  refine ⟨T.setFrames fs, ?_, .returned (some (.int 1)), hrun, hended, rfl, ⟨_, rfl⟩, hW, hframe⟩
  jvm_step X.here [X.here.top, hx, hb, hdg, hmeth', hr, ret, narrow_b1]
  (try refine ⟨rfl, ?_⟩); (try refine ⟨rfl, ?_⟩)
  first | (intro acts; rw [hret _ acts rfl rfl rfl]) | rw [hret _ _ rfl rfl rfl]
  exact Steps.refl _
/-- what holds at the law's entry: the machine, the code, the tables' words (any of lw_tbl by 'hts w (by decide +kernel)'), the script of L ints xs at the cell b, what the Statement gives of the start (any of its parts by flat_of_before) -/
def lw_At (p : Program) (s : State) (m : MethodId) (meth : Method) (c : Code) (b L : Nat) (xs : Nat → Int32) : Prop :=
  p.tables.exec = Jvm.exec ∧ c.code = code ∧ meth.sig.returnType = ret ∧ c.maxLocals = 4 ∧ s.vm.findClass R_law = some m.cls ∧ (∀ w ∈ lw_tbl, w.before #[Value.ref b] s = true) ∧ va_X b L xs s s.heap ∧ b < s.heap.size ∧ meth.locks = false ∧ (Jvm.Cond.and given_1 narrow_1).before #[Value.ref b] s = true
theorem wk_9_7 : Cond.classLink (om_own 9) 7 RX7 ∈ BIG := big_mem 93 (by decide +kernel) (by decide +kernel)
theorem wk_9_10 : Cond.classLink (om_own 9) 10 RX8 ∈ BIG := big_mem 1038 (by decide +kernel) (by decide +kernel)
theorem wm_9_9 : Cond.methodLink (om_own 9) 9 mXc7.2.1 ∈ BIG := big_mem 95 (by decide +kernel) (by decide +kernel)
theorem wm_9_12 : Cond.methodLink (om_own 9) 12 mXc8.2.1 ∈ BIG := big_mem 1040 (by decide +kernel) (by decide +kernel)
theorem al_ext : om_al.all (fun q => decide (q.1 < 700 ∨ 1000 ≤ q.1)) = true := by decide +kernel
theorem sl_139 : sl 139 ≤ 7302250 := by decide +kernel
theorem law_made {d : Nat} {J : Nat → Lc → List Value → Nat → Nat → Prop} (g : Gc 9 code 4 (4 + 1) 0 139 J) (k : J 18 [some (.ref 900), some (.ref 1), some (.ref 600), some (.int 0)] [] 139 384) : J 0 [some (.ref 900), none, none, none] [] 0 0 := by
  refine jc_new g (pc := 0) (n := 0) (t := 0) (ci := 7) (a := 1) rfl (by decide +kernel) (by omega) (by omega) (by decide +kernel) wk_9_7 wn_7 wz_7 (by decide +kernel) ?_
  refine jc_dup g (pc := 3) (n := 1) (t := 0) (by decide +kernel) rfl ?_
  refine jc_call g (pc := 4) (n := 1) (t := 0) (As := []) cz_1 wm_9_9 cb_7 (by omega) (by omega) (by omega) rfl (by decide +kernel) (by decide +kernel) (by decide) (by decide +kernel) ?_
  refine jc_astore_n g (pc := 7) (n := 110) (t := 336) (i := 1) (by decide +kernel) (by decide) ?_
  dsimp only [stL, clL, hdL]
  refine jc_new g (pc := 8) (n := 110) (t := 336) (ci := 8) (a := 600) rfl (by decide +kernel) (by omega) (by omega) (by decide +kernel) wk_9_10 wn_8 wz_8 (by decide +kernel) ?_
  refine jc_dup g (pc := 11) (n := 111) (t := 336) (by decide +kernel) rfl ?_
  refine jc_call g (pc := 12) (n := 111) (t := 336) (As := []) cz_600 wm_9_12 cb_8 (by omega) (by omega) (by omega) rfl (by decide +kernel) (by decide +kernel) (by decide) (by decide +kernel) ?_
  refine jc_astore_n g (pc := 15) (n := 139) (t := 384) (i := 2) (by decide +kernel) (by decide) ?_
  dsimp only [stL, clL, hdL]
  refine jc_iconst g (pc := 16) (n := 139) (t := 384) (x := 0) (0) (by decide +kernel) rfl ?_
  refine jc_istore_n g (pc := 17) (n := 139) (t := 384) (i := 3) (by decide +kernel) (by decide) ?_
  dsimp only [stL, clL, hdL]
  exact k
def rS (t1 t2 t3 b : Nat) (adK adV : Nat → Nat) : Nat → Nat := fun x => if x = 700 then t1 else if x = 701 then t2 else if x = 702 then t3 else if x = 900 then b else if x < 830 then adK (x - 800) else adV (x - 830)
theorem rS_K {t1 t2 t3 b : Nat} {adK adV : Nat → Nat} {i : Nat} (h : i < 17) : rS t1 t2 t3 b adK adV (800 + i) = adK i := by
  unfold rS
  rw [if_neg (by omega), if_neg (by omega), if_neg (by omega), if_neg (by omega), if_pos (by omega), show 800 + i - 800 = i by omega]
theorem rS_V {t1 t2 t3 b : Nat} {adK adV : Nat → Nat} {i : Nat} (h : i < 17) : rS t1 t2 t3 b adK adV (830 + i) = adV i := by
  unfold rS
  rw [if_neg (by omega), if_neg (by omega), if_neg (by omega), if_neg (by omega), if_neg (by omega), show 830 + i - 830 = i by omega]
theorem ag_ext {r0 r : Nat → Nat} (h : ag 0 139 r0 r) {x : Nat} (h1 : 700 ≤ x) (h2 : x < 1000) : r x = r0 x := h x (fun i q _ _ hq e => by
  have := List.all_eq_true.mp al_ext q (List.mem_of_getElem? hq)
  simp only [decide_eq_true_eq] at this
  omega)
theorem whole_start {p : Program} {e : Env} {s : State} {m : MethodId} {below : List Frame} {meth : Method} {c : Code} (l : Launch) (hflags : l.flags = flags0) {b L : Nat} {xs : Nat → Int32} (hL : L ≤ 448) (C0 : lw_At p s m meth c b L xs) : W p l e room_1 s m #[Value.ref b] below meth c s.heap [] 0 0 (lw_Z below #[Value.ref b] s) (entryFrame m ([Value.ref b] : List Value).toArray 4) := by
  obtain ⟨hx, hb, hr, hml, hown, hts, hX, hbl, hlocks, hgv⟩ := C0
  have hB : ∀ w ∈ BIG, w.before #[Value.ref b] s = true := fun w h => hts w (List.mem_filter.mp h).1
  obtain ⟨A, hAe⟩ : ∃ A : Nat → Prop, A = fun q => s.heap.size ≤ q := ⟨_, rfl⟩
  have hA1 : ∀ q, s.heap.size ≤ q → A q := fun q h => by rw [hAe]; exact h
  have hA2 : ∀ q, A q → s.heap.size ≤ q := fun q h => by rw [hAe] at h; exact h
  have hA : ∀ a : Nat, a < s.heap.size → ¬ A a := fun a h u => by
    have := hA2 a u
    omega
  clear hAe
  obtain ⟨D, cA, hK⟩ := law_K hts
  have hNX := law_NX hts
  obtain ⟨⟨t1, z1, T1⟩, ⟨t2, z2, T2⟩⟩ := law_rows hts hgv hA
  obtain ⟨adK, adV, S1, S2⟩ := law_texts hts hgv hA
  obtain ⟨c1, c2, c3⟩ := law_stat hts hgv hA
  obtain ⟨t3, hc2⟩ : ∃ t3 : Nat, va_Z "jdk/internal/util/Preconditions" "SIOOBE_FORMATTER" "Ljava/util/function/BiFunction;" .null A s s.heap ∨ va_Z "jdk/internal/util/Preconditions" "SIOOBE_FORMATTER" "Ljava/util/function/BiFunction;" (.ref t3) A s s.heap := by
    rcases c2 with h | ⟨t, h⟩
    · exact ⟨0, Or.inl h⟩
    · exact ⟨t, Or.inr h⟩
  obtain ⟨r0, hr0⟩ : ∃ r0, r0 = rS t1 t2 t3 b adK adV := ⟨_, rfl⟩
  have e900 : r0 900 = b := by rw [hr0]; rfl
  have hl0 := lvA_entry r0 [.ref 900] (n := 4) (L := [some (.ref 900), none, none, none]) (by decide) rfl
  have em : ([.ref 900] : List Value).map (om_cv r0) = [.ref b] := by
    show [Value.ref (r0 900)] = _
    rw [e900]
  rw [em] at hl0
  rw [lg_entry_eq]
  have fin := law_made (d := 0) (J := fun pc L st n t => ∀ (r : Nat → Nat) (H : Heap) (locs : List Loc) (ls : Array Slot), ag 0 n r0 r → va_P D om_cl (cw r cA n t) H → va_D A (cw r cA n t) → va_S A s.heap H locs → lvA r L ls 4 → W p l e room_1 s m #[Value.ref b] below meth c H locs (n - 0) (sl n - sl 0) (lw_Z below #[Value.ref b] s) (F0 m pc ls (st.map (om_cv r)))) ⟨p, l, e, room_1, s, m, #[Value.ref b], below, meth, c, lw_Z below #[Value.ref b] s, D, r0, cA, A, ⟨hx, hb, hml, hown, hB, hK, hNX, hA1, by decide, by decide, by decide, Nat.le_trans (Nat.sub_le _ _) sl_139, fun h => absurd h (by omega)⟩, rfl⟩ ?_
  · have := fin r0 s.heap [] _ ag.rf (fun k q hk => by
      unfold cw at hk
      rw [List.take_zero] at hk
      cases hk) ⟨fun i j p q hp _ _ => (by
      unfold cw at hp
      rw [List.take_zero] at hp
      cases hp), fun k q hk => (by
      unfold cw at hk
      rw [List.take_zero] at hk
      cases hk)⟩ va_S.rf hl0
    rw [Nat.sub_self, Nat.sub_self] at this
    exact this
  · intro r H locs ls hag hP hD hS hl
    have x700 : r 700 = t1 := by rw [ag_ext hag (by omega) (by omega), hr0]; rfl
    have x701 : r 701 = t2 := by rw [ag_ext hag (by omega) (by omega), hr0]; rfl
    have x702 : r 702 = t3 := by rw [ag_ext hag (by omega) (by omega), hr0]; rfl
    have x900 : r 900 = b := by rw [ag_ext hag (by omega) (by omega)]; exact e900
    have x800 : ∀ i, i < 17 → r (800 + i) = adK i := fun i hi => by rw [ag_ext hag (by omega) (by omega), hr0]; exact rS_K hi
    have x830 : ∀ i, i < 17 → r (830 + i) = adV i := fun i hi => by rw [ag_ext hag (by omega) (by omega), hr0]; exact rS_V hi
    have hEx : Ex r A s := by
      refine ⟨⟨by rw [x700]; exact z1, by rw [x700]; exact T1⟩, ⟨by rw [x701]; exact z2, by rw [x701]; exact T2⟩, c3, ⟨fun i hi => ?_, fun i j hi hj e => ?_⟩, fun i q hq => ?_, c1, by rw [x702]; exact hc2⟩
      · dsimp only
        rw [x800 i hi, x830 i hi]
        exact S1.1 i hi
      · dsimp only at e
        rw [x800 i hi, x800 j hj] at e
        exact S1.2 i j hi hj e
      · have hl17 : i < 17 := (List.getElem?_eq_some_iff.mp hq).1
        rw [x800 i hl17]
        exact S2 i q hq
    have gs : GoodS code 4 31 L xs (fun pc L st M => ∀ (H : Heap) (locs : List Loc) (ls : Array Slot), va_P D om_cl (om_ws r cA M) H → va_S A s.heap H locs → lvA r L ls 4 → W p l e room_1 s m #[Value.ref b] below meth c H locs (139 - 0) (sl 139 - sl 0) (lw_Z below #[Value.ref b] s) (F0 m pc ls (st.map (om_cv r)))) := ⟨p, l, e, room_1, s, m, #[Value.ref b], below, meth, c, 139 - 0, sl 139 - sl 0, lw_Z below #[Value.ref b] s, D, r, cA, A, ⟨hx, hb, hml, hown, hB, hK, hEx, fin_D hD, by decide, by decide, by decide, Nat.le_trans (Nat.sub_le _ _) sl_139⟩, ⟨by rw [x900]; exact hbl, by rw [x900]; exact hA b hbl, by rw [x900]; exact hX⟩, rfl⟩
    have run := law_loop gs hL (fun pc L M hd H locs ls hP1 hS1 hl1 => va_forget (fun q hq => hA2 _ (hS1.2.2 q hq)) (W.widen (by omega) (Nat.le_trans (Nat.sub_le _ _) sl_139) (lw_ret hx hb hr hlocks hd))) 64 0 M0 rfl rel0
    exact run H locs ls (fin_P hP) hS hl

set_option maxHeartbeats 4000000 in
theorem lw_walk (l : Launch) (hflags : l.flags = flags0) (b : Addr) (xs : List Int32) : MetFree l x (headSpec (Jvm.Cond.code x code maxLocals ret :: tables_1) room_1) (lw_P b xs) (fun _ _ _ _ _ => True) lw_Q := by
  refine MetFree.of_bodyS (code := code) (maxLocals := maxLocals) (ret := ret) (by decide) ?_ ?_
  · intro args s m h hn
    obtain ⟨meth, c, h1, h2, h3, h4, h5, h6, -, -⟩ := Cond.code_spec hn (atoms_spec (ws := Jvm.Cond.code x code maxLocals ret :: tables_1) h _ List.mem_cons_self)
    exact ⟨meth, c, h1, h2, h3, h4, h5, h6⟩
  · intro p e s m args below meth c s₁ B hml0 hP _
    obtain ⟨rfl, hx, hbd, hgv⟩ := hP
    obtain ⟨scr, harrAt, hlist, hof, hsmall⟩ := hx
    obtain ⟨hcb, hkn, -, -⟩ := State.arrayAt?_spec harrAt
    have hown : s.vm.findClass R_law = some m.cls := findClass_of_methodNamed B.named
    have hts0 : ∀ c ∈ (Jvm.Cond.code x code maxLocals ret :: tables_1), c.before #[Value.ref b] s = true := atoms_spec (ws := Jvm.Cond.code x code maxLocals ret :: tables_1) B.pre
    have hts : ∀ w ∈ lw_tbl, w.before #[Value.ref b] s = true := k2_hts_sels lw_privs (fun w hw => hts0 w (List.mem_cons_of_mem _ hw)) lw_privs_ok
    have hml : c.maxLocals = 4 := B.maxLocals_eq (hts0 _ List.mem_cons_self)
    have X₀ : Stand p l e room_1 s m #[Value.ref b] below meth c s₁ [] 0 0 := Stand.of_body B
    have hh0 : s₁.heap = s.heap := by rw [B.state]; rfl
    have hsz : scr.slots.size = xs.length := by rw [← Array.length_toList, hlist, List.length_map]
    have hval : ∀ j : Nat, j < xs.length → scr.slots[j]? = some (.int (xs.getD j 0)) := fun j hj => by
      rw [← Array.getElem?_toList, hlist]
      simp [hj]
    have hbl : b < s.heap.size := (Array.getElem?_eq_some_iff.mp hcb).1
    have hX : va_X b xs.length (fun j => xs.getD j 0) s s.heap := ⟨scr, hcb, hof, hkn, hsz, hval⟩
    have K : W p l e room_1 s m #[Value.ref b] below meth c s₁.heap [] 0 0 (lw_Z below #[Value.ref b] s) (entryFrame m ([Value.ref b] : List Value).toArray 4) := by
      rw [hh0]
      exact whole_start l hflags hbd ⟨B.exec, B.bytes, B.returns, hml, hown, hts, hX, hbl, B.notSynchronized, hgv⟩
    obtain ⟨t, a1, o, b1, b2, b3⟩ := K s₁ rfl X₀
    exact ⟨t, o, a1, b1, b2, b3⟩
theorem lw_pre_spec {args : Array Value} {s : State} (h : (Jvm.Cond.and given_1 narrow_1).before args s = true) (hr : rest_1_c.before args s = true) : ∃ (b : Addr) (xs : List Int32), lw_P b xs args s := by
  have hs := flat_of_before _ h
  have hq := flat_of_before _ hr
  have hc : (Cond.count 1).before args s = true := hs _ (by decide +kernel)
  have harr : (Cond.arrayOf (.arg 0) .int).before args s = true := hs _ (by decide +kernel)
  have hle : (Cond.le (.length (.arg 0)) (.int 448)).before args s = true := hs _ (by decide +kernel)
  have hlen : (Cond.isInt (.length (.arg 0))).before args s = true := hq _ (by decide +kernel)
  have hall : (Cond.all (.arg 0) (.isInt (.elem (.arg 0) (.index 0)))).before args s = true := hq _ (by decide +kernel)
  obtain ⟨b, xs, hb, hx⟩ := State.ints_of_pre rfl harr hlen hall
  have hsm : xs.length < 2 ^ 31 := hx.choose_spec.2.2.2
  have hev : (Term.length (.arg 0)).eval args s none [] s = some (.int xs.length.toInt32) := hx.length_eval hb
  have hv := Cond.le_ints hev (show (Term.int 448).eval args s none [] s = some (.int 448) from rfl)
  have hd : xs.length.toInt32 ≤ 448 := by
    simpa [Cond.before, Cond.holds, hv] using hle
  have hN : xs.length ≤ 448 := (Int32.ofNat_le_ofNat hsm (by decide)).mp (show Int32.ofNat xs.length ≤ Int32.ofNat 448 from hd)
  exact ⟨b, xs, Cond.one_arg hc (show args[0]? = some (.ref b) from hb), hx, hN, h⟩
theorem lw_comes (l : Launch) (hflags : l.flags = flags0) : Comes l x (Jvm.Cond.code x code maxLocals ret :: tables_1) room_1 (fun tb e args s => Calls_1 tb e args s ∧ rest_1 tb e args s ∧ Pre_1 tb e args s)
    (fun _ _ args s o t => lw_Q args s o t) := by
  intro p e ha hc hk s m args below hf hfit hheap happ hpre
  obtain ⟨b, xs, hP⟩ := lw_pre_spec hpre.2.2 hpre.2.1
  obtain ⟨k, o, h1, h2, h3, hQ⟩ := lw_walk l hflags b xs p e ha hc hk s m args below hf ((Spec.applies_iff_loose hf).mp happ).1 hP trivial
  exact ⟨k, o, h1, h2, h3, hQ⟩
theorem lw_frame {s t : State} {o : Outcome} {args : Array Value} (h : Framed s o t [] 600000 7302250) :
    Framed s o t (fieldLocs frame_1_writes args s ++ arrayLocs frame_1_arrays args s ++ staticLocs frame_1_statics s) 600000 7302250 := h
theorem lw_limb (L : Cond) (hL : ∀ (args : Array Value) (s t : State), L.after args s (.returned (some (.int 1))) t = true) :
    ArmFor flags0 classFile x code maxLocals ret World_1 tables_1 room_1 Calls_1 rest_1 Pre_1
      (fun tb e a s o t => postC L tb e a s o t ∧ Framed s o t (fieldLocs frame_1_writes a s ++ arrayLocs frame_1_arrays a s ++ staticLocs frame_1_statics s) 600000 7302250) := by
  intro l hflags _ _ p e ha hc hk s m args below hf hfit hheap happ hpre
  obtain ⟨k, o, h1, h2, h3, rfl, hF⟩ := lw_comes l hflags p e ha hc hk s m args below hf hfit hheap happ hpre
  exact ⟨k, _, h1, h2, h3, hL args s _, lw_frame hF⟩
theorem i_vc : Claimed_1_1 ∧ Claimed_1_2 := ⟨lw_limb limb_1_1 (fun args s t => by simp [limb_1_1, Cond.after, Cond.holds, Cond.value]), lw_limb limb_1_2 (fun args s t => Cond.after_iff.mpr (by
  first | (rw [show limb_1_2 = Cond.eq .result (.int 1) from rfl, Cond.eq_ints (x := 1) (y := 1) rfl rfl]; simp; done) | (simp [limb_1_2, Cond.value, Term.eval]; done)))⟩
