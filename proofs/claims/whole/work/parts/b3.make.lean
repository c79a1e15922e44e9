/-! the constructors: rules that make and write -/
theorem cv_def (r : Nat → Nat) (ty : FieldType) : om_cv r (defaultValue ty) = defaultValue ty := by cases ty <;> rfl
theorem XS_un {t a : Nat} (hu : unt t a = true) (j : Nat) : XS t a j = X0 a j := unt_X _ _ _ hu j
theorem cX_def {r : Nat → Nat} {cA : Nat → ClassId} {t a ci m : Nat} (hu : unt t a = true) (hg : gk a = ci) (hci : ci < 9) : cX r cA (XS t) a ci m = .inr (ci, (List.range (om_nf ci)).map (fun j => defaultValue (om_ty ci j))) := by
  unfold cX
  rw [if_pos hci]
  have e : (fun j => om_cv r (XS t a j)) = fun j => defaultValue (om_ty ci j) := funext fun j => by
    rw [XS_un hu]
    unfold X0
    rw [hg, if_pos hci, cv_def]
  rw [e]
theorem cX_defI {r : Nat → Nat} {cA : Nat → ClassId} {t a k m : Nat} (hu : unt t a = true) (hg : gk a = k) (hk : k = 9 ∨ k = 10) : cX r cA (XS t) a k m = .inl (cA k, m, .inl (fun _ => 0)) := by
  unfold cX
  rw [if_neg (by omega), if_neg (by omega), if_neg (by omega)]
  have e : (fun j => vI (XS t a j)) = fun _ => 0 := funext fun j => by
    rw [XS_un hu]
    unfold X0
    rw [hg, if_neg (by omega), if_neg (by omega), if_neg (by omega)]
    rfl
  rw [e]
theorem cX_defJ {r : Nat → Nat} {cA : Nat → ClassId} {t a m : Nat} (hu : unt t a = true) (hg : gk a = 11) : cX r cA (XS t) a 11 m = .inl (cA 11, m, .inr (.inl (fun _ => 0))) := by
  unfold cX
  rw [if_neg (by omega), if_pos rfl]
  have e : (fun j => vJ (XS t a j)) = fun _ => 0 := funext fun j => by
    rw [XS_un hu]
    unfold X0
    rw [hg, if_neg (by omega), if_pos rfl]
    rfl
  rw [e]
theorem cX_defR {r : Nat → Nat} {cA : Nat → ClassId} {t a k m : Nat} (hu : unt t a = true) (hg : gk a = k) (hk : 12 ≤ k) : cX r cA (XS t) a k m = .inl (cA k, m, .inr (.inr (.inr (.inr (fun _ => none))))) := by
  unfold cX
  rw [if_neg (by omega), if_neg (by omega), if_pos hk]
  have e : (fun j => vR r (XS t a j)) = fun _ => none := funext fun j => by
    rw [XS_un hu]
    unfold X0
    rw [hg, if_neg (by omega), if_neg (by omega), if_pos hk]
    rfl
  rw [e]
def okv : FieldType → Value → Bool
  | .int, .int _ => true
  | .boolean, .int x => x == 0
  | .long, .long _ => true
  | .object _, .ref _ => true
  | .array _, .ref _ => true
  | _, _ => false
theorem okv_n {ty : FieldType} {v : Value} (h : okv ty v = true) (r : Nat → Nat) : narrow ty (om_cv r v) = om_cv r v ∧ fits ty (om_cv r v) = true := by
  cases ty with
  | int => cases v <;> first | exact ⟨rfl, rfl⟩ | (exact absurd h (by simp [okv]))
  | boolean =>
    cases v with
    | int x =>
      have e : x = 0 := by simpa [okv] using h
      subst e
      show narrow .boolean (.int 0) = .int 0 ∧ fits .boolean (.int 0) = true
      exact ⟨by decide +kernel, by decide +kernel⟩
    | _ => exact absurd h (by simp [okv])
  | long => cases v <;> first | exact ⟨rfl, rfl⟩ | (exact absurd h (by simp [okv]))
  | object n => cases v <;> first | exact ⟨rfl, rfl⟩ | (exact absurd h (by simp [okv]))
  | array u => cases v <;> first | exact ⟨rfl, rfl⟩ | (exact absurd h (by simp [okv]))
  | _ => exact absurd h (by simp [okv])
/-- all that a new cell asks of what is there -/
def okN (n n' t : Nat) (L : Lc) (st : List Value) : Bool := okX n n' t && okL n n' L && okS n n' st && ((om_al.take n').drop n).all (fun q => unt t q.1 && gk q.1 == q.2.1)
theorem okN_s {n n' t : Nat} {L : Lc} {st : List Value} (h : okN n n' t L st = true) : okX n n' t = true ∧ okL n n' L = true ∧ okS n n' st = true ∧ ∀ (i : Nat) (q : Nat × Nat × Nat), n ≤ i → i < n' → om_al[i]? = some q → unt t q.1 = true ∧ gk q.1 = q.2.1 := by
  unfold okN at h
  rw [Bool.and_eq_true, Bool.and_eq_true, Bool.and_eq_true] at h
  refine ⟨h.1.1.1, h.1.1.2, h.1.2, fun i q u v w => ?_⟩
  have hm : q ∈ (om_al.take n').drop n := by
    refine List.mem_of_getElem? (i := i - n) ?_
    rw [List.getElem?_drop, show n + (i - n) = i by omega, List.getElem?_take_of_lt v]
    exact w
  have := List.all_eq_true.mp h.2 q hm
  rw [Bool.and_eq_true] at this
  exact ⟨this.1, by simpa using this.2⟩
section JCM
variable {own : Nat} {bytes : ByteArray} {mL d n0 n1 : Nat} {J : Nat → Lc → List Value → Nat → Nat → Prop} {pc n t : Nat} {L : Lc} {st : List Value}
theorem jc_new (g : Gc own bytes mL d n0 n1 J) {ci a idx : Nat} {q : vw_C} (hq : om_cl[ci]? = some q) (hal : om_al[n]? = some (a, ci, 0)) (h0 : n0 ≤ n) (h1 : n + 1 ≤ n1) (hok : okN n (n + 1) t L st = true) (w1 : Cond.classLink (om_own own) idx q.1 ∈ BIG) (w2 : Cond.instantiable q.1 q.2.2 ∈ BIG) (w3 : Cond.initialized q.1 ∈ BIG) (hd : decode bytes pc = .ok (.new idx, 3)) (k : J (pc + 3) L (.ref a :: st) (n + 1) t) : J pc L st n t := by
  obtain ⟨p, l, e, R, s, m, args, below, meth, c, Z, D, r0, cA, A, ⟨hx, hb, hml, hown, hts, hK, hNX, hA, hRf, hRl, hRc, hRs, hin⟩, rfl⟩ := g
  intro r H locs ls hag hP hD hS hl
  obtain ⟨o1, o2, o3, o4⟩ := okN_s hok
  obtain ⟨u1, u2⟩ := o4 n _ (Nat.le_refl _) (by omega) hal
  have m0 := sl_mono h0
  have m1 := sl_mono h1
  have ms := sl_s hal
  obtain ⟨hi1, hty, hnm, -, hci⟩ := om_in ci q hq
  have mc : csz (a, ci, 0) = q.2.2 := by
    unfold csz
    rw [if_pos hci]
    exact om_nf_eq hq
  rw [mc] at ms
  have e1 : n - n0 + 1 = n + 1 - n0 := by omega
  have e2 : sl n - sl n0 + q.2.2 = sl (n + 1) - sl n0 := by omega
  refine va_new hx hb hts hi1 (om_ty ci) hty hown (hts _ w1) (hts _ w2) (hts _ w3) hK hP hD hS hA hq (fs := (List.range (om_nf ci)).map (fun j => defaultValue (om_ty ci j))) (fun j hj => ?_) (by omega) (by omega) hd (fun qa H1 hP1 hD1 hS1 => ?_)
  · unfold vp_V
    rw [List.getD_eq_getElem?_getD, List.getElem?_map, List.getElem?_range (by rw [om_nf_eq hq]; exact hj)]
    rfl
  · rw [e1, e2]
    have ha := up1_ag (r := r) (q := qa) hal
    have ec := cw_push (r := r) (cA := cA) (q := qa) hal o1
    rw [cX_def u1 u2 hci] at ec
    have kk := k (up1 r a qa) H1 locs ls (hag.tr ha h0 (by omega)) (by rw [ec]; exact hP1) (by rw [ec]; exact hD1) hS1 (okL_lv o2 ha hl)
    have es : (Value.ref a :: st).map (om_cv (up1 r a qa)) = .ref qa :: st.map (om_cv r) := by
      show Value.ref (up1 r a qa a) :: st.map (om_cv (up1 r a qa)) = _
      rw [up1_s, okS_map o3 ha]
    rw [es] at kk
    exact kk
theorem jc_newaI (g : Gc own bytes mL d n0 n1 J) {a N : Nat} {x : Int32} (hal : om_al[n]? = some (a, 10, N)) (hx0 : ¬ x < 0) (hxN : x.toNatClampNeg = N) (hN : N ≤ 1000) (h0 : n0 ≤ n) (h1 : n + 1 ≤ n1) (hok : okN n (n + 1) t L st = true) (w1 : Cond.arrayClass .int ∈ BIG) (hd : decode bytes pc = .ok (.newarray .int, 2)) (k : J (pc + 2) L (.ref a :: st) (n + 1) t) : J pc L (.int x :: st) n t := by
  obtain ⟨p, l, e, R, s, m, args, below, meth, c, Z, D, r0, cA, A, ⟨hx, hb, hml, hown, hts, hK, hNX, hA, hRf, hRl, hRc, hRs, hin⟩, rfl⟩ := g
  intro r H locs ls hag hP hD hS hl
  obtain ⟨o1, o2, o3, o4⟩ := okN_s hok
  obtain ⟨u1, u2⟩ := o4 n _ (Nat.le_refl _) (by omega) hal
  have m0 := sl_mono h0
  have m1 := sl_mono h1
  have ms := sl_s hal
  have mc : csz (a, 10, N) = N := if_neg (by show ¬ (10 : Nat) < 9; omega)
  change unt t a = true at u1
  change gk a = 10 at u2
  rw [mc] at ms
  have e1 : n - n0 + 1 = n + 1 - n0 := by omega
  have e2 : sl n - sl n0 + N = sl (n + 1) - sl n0 := by omega
  refine va_newa hx hb (atype := .int) (hts _ w1) (ty := .int) rfl hK hP hD hS hA (a0 := (N, .inl (fun _ => 0))) (fun _ => rfl) hx0 hxN (by show N * 4 ≤ _; omega) (by omega) (by omega) hd (fun qa cA' H1 hK1 hP1 hD1 hS1 => ?_)
  have ecA : cA' = cA 10 := Option.some.inj (((hK1.2 6 (cA', .int) rfl).2).symm.trans ((hK.2 1 (cA 10, .int) rfl).2))
  subst ecA
  · rw [e1, e2]
    have ha := up1_ag (r := r) (q := qa) hal
    have ec := cw_push (r := r) (cA := cA) (q := qa) hal o1
    rw [cX_defI u1 u2 (by omega)] at ec
    have kk := k (up1 r a qa) H1 locs ls (hag.tr ha h0 (by omega)) (by rw [ec]; exact hP1) (by rw [ec]; exact hD1) hS1 (okL_lv o2 ha hl)
    have es : (Value.ref a :: st).map (om_cv (up1 r a qa)) = .ref qa :: st.map (om_cv r) := by
      show Value.ref (up1 r a qa a) :: st.map (om_cv (up1 r a qa)) = _
      rw [up1_s, okS_map o3 ha]
    rw [es] at kk
    exact kk
theorem jc_newaB (g : Gc own bytes mL d n0 n1 J) {a N : Nat} {x : Int32} (hal : om_al[n]? = some (a, 9, N)) (hx0 : ¬ x < 0) (hxN : x.toNatClampNeg = N) (hN : N ≤ 1000) (h0 : n0 ≤ n) (h1 : n + 1 ≤ n1) (hok : okN n (n + 1) t L st = true) (w1 : Cond.arrayClass .byte ∈ BIG) (hd : decode bytes pc = .ok (.newarray .byte, 2)) (k : J (pc + 2) L (.ref a :: st) (n + 1) t) : J pc L (.int x :: st) n t := by
  obtain ⟨p, l, e, R, s, m, args, below, meth, c, Z, D, r0, cA, A, ⟨hx, hb, hml, hown, hts, hK, hNX, hA, hRf, hRl, hRc, hRs, hin⟩, rfl⟩ := g
  intro r H locs ls hag hP hD hS hl
  obtain ⟨o1, o2, o3, o4⟩ := okN_s hok
  obtain ⟨u1, u2⟩ := o4 n _ (Nat.le_refl _) (by omega) hal
  have m0 := sl_mono h0
  have m1 := sl_mono h1
  have ms := sl_s hal
  have mc : csz (a, 9, N) = N := if_neg (by show ¬ (9 : Nat) < 9; omega)
  change unt t a = true at u1
  change gk a = 9 at u2
  rw [mc] at ms
  have e1 : n - n0 + 1 = n + 1 - n0 := by omega
  have e2 : sl n - sl n0 + N = sl (n + 1) - sl n0 := by omega
  refine va_newa hx hb (atype := .byte) (hts _ w1) (ty := .byte) rfl hK hP hD hS hA (a0 := (N, .inl (fun _ => 0))) (fun _ => rfl) hx0 hxN (by show N * 1 ≤ _; omega) (by omega) (by omega) hd (fun qa cA' H1 hK1 hP1 hD1 hS1 => ?_)
  have ecA : cA' = cA 9 := Option.some.inj (((hK1.2 6 (cA', .byte) rfl).2).symm.trans ((hK.2 0 (cA 9, .byte) rfl).2))
  subst ecA
  · rw [e1, e2]
    have ha := up1_ag (r := r) (q := qa) hal
    have ec := cw_push (r := r) (cA := cA) (q := qa) hal o1
    rw [cX_defI u1 u2 (by omega)] at ec
    have kk := k (up1 r a qa) H1 locs ls (hag.tr ha h0 (by omega)) (by rw [ec]; exact hP1) (by rw [ec]; exact hD1) hS1 (okL_lv o2 ha hl)
    have es : (Value.ref a :: st).map (om_cv (up1 r a qa)) = .ref qa :: st.map (om_cv r) := by
      show Value.ref (up1 r a qa a) :: st.map (om_cv (up1 r a qa)) = _
      rw [up1_s, okS_map o3 ha]
    rw [es] at kk
    exact kk
theorem jc_newaJ (g : Gc own bytes mL d n0 n1 J) {a N : Nat} {x : Int32} (hal : om_al[n]? = some (a, 11, N)) (hx0 : ¬ x < 0) (hxN : x.toNatClampNeg = N) (hN : N ≤ 1000) (h0 : n0 ≤ n) (h1 : n + 1 ≤ n1) (hok : okN n (n + 1) t L st = true) (w1 : Cond.arrayClass .long ∈ BIG) (hd : decode bytes pc = .ok (.newarray .long, 2)) (k : J (pc + 2) L (.ref a :: st) (n + 1) t) : J pc L (.int x :: st) n t := by
  obtain ⟨p, l, e, R, s, m, args, below, meth, c, Z, D, r0, cA, A, ⟨hx, hb, hml, hown, hts, hK, hNX, hA, hRf, hRl, hRc, hRs, hin⟩, rfl⟩ := g
  intro r H locs ls hag hP hD hS hl
  obtain ⟨o1, o2, o3, o4⟩ := okN_s hok
  obtain ⟨u1, u2⟩ := o4 n _ (Nat.le_refl _) (by omega) hal
  have m0 := sl_mono h0
  have m1 := sl_mono h1
  have ms := sl_s hal
  have mc : csz (a, 11, N) = N := if_neg (by show ¬ (11 : Nat) < 9; omega)
  change unt t a = true at u1
  change gk a = 11 at u2
  rw [mc] at ms
  have e1 : n - n0 + 1 = n + 1 - n0 := by omega
  have e2 : sl n - sl n0 + N = sl (n + 1) - sl n0 := by omega
  refine va_newa hx hb (atype := .long) (hts _ w1) (ty := .long) rfl hK hP hD hS hA (a0 := (N, .inr (.inl (fun _ => 0)))) (fun _ => rfl) hx0 hxN (by show N * 8 ≤ _; omega) (by omega) (by omega) hd (fun qa cA' H1 hK1 hP1 hD1 hS1 => ?_)
  have ecA : cA' = cA 11 := Option.some.inj (((hK1.2 6 (cA', .long) rfl).2).symm.trans ((hK.2 2 (cA 11, .long) rfl).2))
  subst ecA
  · rw [e1, e2]
    have ha := up1_ag (r := r) (q := qa) hal
    have ec := cw_push (r := r) (cA := cA) (q := qa) hal o1
    rw [cX_defJ u1 u2] at ec
    have kk := k (up1 r a qa) H1 locs ls (hag.tr ha h0 (by omega)) (by rw [ec]; exact hP1) (by rw [ec]; exact hD1) hS1 (okL_lv o2 ha hl)
    have es : (Value.ref a :: st).map (om_cv (up1 r a qa)) = .ref qa :: st.map (om_cv r) := by
      show Value.ref (up1 r a qa a) :: st.map (om_cv (up1 r a qa)) = _
      rw [up1_s, okS_map o3 ha]
    rw [es] at kk
    exact kk
theorem jc_anewS (g : Gc own bytes mL d n0 n1 J) {a N idx : Nat} {x : Int32} (hal : om_al[n]? = some (a, 12, N)) (hx0 : ¬ x < 0) (hxN : x.toNatClampNeg = N) (hN : N ≤ 1000) (h0 : n0 ≤ n) (h1 : n + 1 ≤ n1) (hok : okN n (n + 1) t L st = true) (w1 : Cond.classLink (om_own own) idx RX3 ∈ BIG) (hd : decode bytes pc = .ok (.anewarray idx, 3)) (k : J (pc + 3) L (.ref a :: st) (n + 1) t) : J pc L (.int x :: st) n t := by
  obtain ⟨p, l, e, R, s, m, args, below, meth, c, Z, D, r0, cA, A, ⟨hx, hb, hml, hown, hts, hK, hNX, hA, hRf, hRl, hRc, hRs, hin⟩, rfl⟩ := g
  intro r H locs ls hag hP hD hS hl
  obtain ⟨o1, o2, o3, o4⟩ := okN_s hok
  obtain ⟨u1, u2⟩ := o4 n _ (Nat.le_refl _) (by omega) hal
  have m0 := sl_mono h0
  have m1 := sl_mono h1
  have ms := sl_s hal
  have mc : csz (a, 12, N) = N := if_neg (by show ¬ (12 : Nat) < 9; omega)
  change unt t a = true at u1
  change gk a = 12 at u2
  rw [mc] at ms
  have e1 : n - n0 + 1 = n + 1 - n0 := by omega
  have e2 : sl n - sl n0 + N = sl (n + 1) - sl n0 := by omega
  refine va_newq hx hb hown (hts _ w1) hNX.1.1 hK hP hD hS hA hx0 hxN (by omega) (by omega) (by omega) hd (fun qa cA' H1 hK1 hP1 hD1 hS1 => ?_)
  have ecA : cA' = cA 12 := by
    obtain ⟨x1, x2, x3, x4, x5, x6⟩ := (hK1.2 6 (cA', .object RX3) rfl).2
    obtain ⟨y1, y2, y3, y4, y5, y6⟩ := (hK.2 3 (cA 12, .object RX3) rfl).2
    exact Option.some.inj (x6.symm.trans y6)
  subst ecA
  · rw [e1, e2]
    have ha := up1_ag (r := r) (q := qa) hal
    have ec := cw_push (r := r) (cA := cA) (q := qa) hal o1
    rw [cX_defR u1 u2 (by omega)] at ec
    have kk := k (up1 r a qa) H1 locs ls (hag.tr ha h0 (by omega)) (by rw [ec]; exact hP1) (by rw [ec]; exact hD1) hS1 (okL_lv o2 ha hl)
    have es : (Value.ref a :: st).map (om_cv (up1 r a qa)) = .ref qa :: st.map (om_cv r) := by
      show Value.ref (up1 r a qa a) :: st.map (om_cv (up1 r a qa)) = _
      rw [up1_s, okS_map o3 ha]
    rw [es] at kk
    exact kk
theorem jc_anewW (g : Gc own bytes mL d n0 n1 J) {a N idx : Nat} {x : Int32} (hal : om_al[n]? = some (a, 13, N)) (hx0 : ¬ x < 0) (hxN : x.toNatClampNeg = N) (hN : N ≤ 1000) (h0 : n0 ≤ n) (h1 : n + 1 ≤ n1) (hok : okN n (n + 1) t L st = true) (w1 : Cond.classLink (om_own own) idx RX6 ∈ BIG) (hd : decode bytes pc = .ok (.anewarray idx, 3)) (k : J (pc + 3) L (.ref a :: st) (n + 1) t) : J pc L (.int x :: st) n t := by
  obtain ⟨p, l, e, R, s, m, args, below, meth, c, Z, D, r0, cA, A, ⟨hx, hb, hml, hown, hts, hK, hNX, hA, hRf, hRl, hRc, hRs, hin⟩, rfl⟩ := g
  intro r H locs ls hag hP hD hS hl
  obtain ⟨o1, o2, o3, o4⟩ := okN_s hok
  obtain ⟨u1, u2⟩ := o4 n _ (Nat.le_refl _) (by omega) hal
  have m0 := sl_mono h0
  have m1 := sl_mono h1
  have ms := sl_s hal
  have mc : csz (a, 13, N) = N := if_neg (by show ¬ (13 : Nat) < 9; omega)
  change unt t a = true at u1
  change gk a = 13 at u2
  rw [mc] at ms
  have e1 : n - n0 + 1 = n + 1 - n0 := by omega
  have e2 : sl n - sl n0 + N = sl (n + 1) - sl n0 := by omega
  refine va_newq hx hb hown (hts _ w1) hNX.1.2.1 hK hP hD hS hA hx0 hxN (by omega) (by omega) (by omega) hd (fun qa cA' H1 hK1 hP1 hD1 hS1 => ?_)
  have ecA : cA' = cA 13 := by
    obtain ⟨x1, x2, x3, x4, x5, x6⟩ := (hK1.2 6 (cA', .object RX6) rfl).2
    obtain ⟨y1, y2, y3, y4, y5, y6⟩ := (hK.2 4 (cA 13, .object RX6) rfl).2
    exact Option.some.inj (x6.symm.trans y6)
  subst ecA
  · rw [e1, e2]
    have ha := up1_ag (r := r) (q := qa) hal
    have ec := cw_push (r := r) (cA := cA) (q := qa) hal o1
    rw [cX_defR u1 u2 (by omega)] at ec
    have kk := k (up1 r a qa) H1 locs ls (hag.tr ha h0 (by omega)) (by rw [ec]; exact hP1) (by rw [ec]; exact hD1) hS1 (okL_lv o2 ha hl)
    have es : (Value.ref a :: st).map (om_cv (up1 r a qa)) = .ref qa :: st.map (om_cv r) := by
      show Value.ref (up1 r a qa a) :: st.map (om_cv (up1 r a qa)) = _
      rw [up1_s, okS_map o3 ha]
    rw [es] at kk
    exact kk
theorem jc_put (g : Gc own bytes mL d n0 n1 J) {idx ci k a i : Nat} {v : Value} (hf : FL own idx ci k) (hdec : ∀ q, om_cl[ci]? = some q → (q.2.1 k).1 = om_own own) (ho : own < 9) (hv : okv (om_ty ci k) v = true) (hal : om_al[i]? = some (a, ci, 0)) (hi : i < n) (hw : om_wr[t]? = some (a, k, v)) (hd : decode bytes pc = .ok (.putfield idx, 3)) (kk : J (pc + 3) L st n (t + 1)) : J pc L (v :: .ref a :: st) n t := by
  obtain ⟨p, l, e, R, s, m, args, below, meth, c, Z, D, r0, cA, A, ⟨hx, hb, hml, hown, hts, hK, hNX, hA, hRf, hRl, hRc, hRs, hin⟩, rfl⟩ := g
  intro r H locs ls hag hP hD hS hl
  obtain ⟨q, hq, hk, hlk⟩ := hf
  obtain ⟨hi1, hty, hnm, -, hci⟩ := om_in ci q hq
  have hwA := cw_at (r := r) (cA := cA) (t := t) hal hi
  have ecX : ∀ t, cX r cA (XS t) a ci 0 = .inr (ci, (List.range (om_nf ci)).map (fun j => om_cv r (XS t a j))) := fun t => by
    unfold cX
    rw [if_pos hci]
  rw [ecX] at hwA
  have hn := okv_n hv r
  have hkn : k < om_nf ci := by rw [om_nf_eq hq]; exact hk
  have hset : ((List.range (om_nf ci)).map (fun j => om_cv r (XS t a j))).set k (om_cv r v) = (List.range (om_nf ci)).map (fun j => om_cv r (XS (t + 1) a j)) := by
    rw [XS_s hw]
    apply List.ext_getElem?
    intro j
    by_cases hj : j = k
    · subst hj
      rw [List.getElem?_set_self (by simpa using hkn), List.getElem?_map, List.getElem?_range hkn]
      show some (om_cv r v) = some (om_cv r (if a = a ∧ j = j then v else XS t a j))
      rw [if_pos ⟨rfl, rfl⟩]
    · rw [List.getElem?_set_ne (Ne.symm hj), List.getElem?_map, List.getElem?_map]
      by_cases hj2 : j < om_nf ci
      · rw [List.getElem?_range hj2]
        show some (om_cv r (XS t a j)) = some (om_cv r (if a = a ∧ j = k then v else XS t a j))
        rw [if_neg (fun u => hj u.2)]
      · rw [List.getElem?_eq_none (by simpa using hj2)]
        rfl
  have fin : ∀ (H1 : Heap) (locs1 : List Loc), va_P D om_cl ((cw r cA n t).set i (r a, .inr (ci, ((List.range (om_nf ci)).map (fun j => om_cv r (XS t a j))).set k (om_cv r v)))) H1 → va_D A ((cw r cA n t).set i (r a, .inr (ci, ((List.range (om_nf ci)).map (fun j => om_cv r (XS t a j))).set k (om_cv r v)))) → va_S A s.heap H1 locs1 → W p l e R s m args below meth c H1 locs1 (n - n0) (sl n - sl n0) Z (F0 m (pc + 3) ls (st.map (om_cv r))) := fun H1 locs1 hP1 hD1 hS1 => by
    rw [hset, ← ecX, cw_set hal hi hw] at hP1 hD1
    exact kk r H1 locs1 ls hag hP1 hD1 hS1 hl
  have hlen : k < ((List.range (om_nf ci)).map (fun j => om_cv r (XS t a j))).length := by simpa using hkn
  cases hfin : (q.2.1 k).2.2.2 with
  | false => exact va_put hx hb hts hi1 (om_ty ci) hty hnm hown hK hP hD hS i hwA hq k hk (hts _ hlk) (fun _ h => h) hfin (hty k hk) hn.1 hn.2 hlen hd fin
  | true => exact va_putF hx hb hts hi1 (om_ty ci) hty hnm hown hK hP hD hS i hwA hq k hk (hts _ hlk) (fun _ h => h) hfin (hin ho) (hdec q hq) (hty k hk) hn.1 hn.2 hlen hd fin
theorem jc_get (g : Gc own bytes mL d n0 n1 J) {idx ci k a i b : Nat} (hf : FL own idx ci k) (hal : om_al[i]? = some (a, ci, 0)) (hi : i < n) (hv : XS t a k = .ref b) (hd : decode bytes pc = .ok (.getfield idx, 3)) (kk : J (pc + 3) L (.ref b :: st) n t) : J pc L (.ref a :: st) n t := by
  obtain ⟨p, l, e, R, s, m, args, below, meth, c, Z, D, r0, cA, A, ⟨hx, hb, hml, hown, hts, hK, hNX, hA, hRf, hRl, hRc, hRs, hin⟩, rfl⟩ := g
  intro r H locs ls hag hP hD hS hl
  obtain ⟨q, hq, hk, hlk⟩ := hf
  obtain ⟨hi1, hty, hnm, -, hci⟩ := om_in ci q hq
  have hwA := cw_at (r := r) (cA := cA) (t := t) hal hi
  have ecX : cX r cA (XS t) a ci 0 = .inr (ci, (List.range (om_nf ci)).map (fun j => om_cv r (XS t a j))) := by
    unfold cX
    rw [if_pos hci]
  rw [ecX] at hwA
  refine va_get hx hb hts hi1 hown hK hP i hwA hq k hk (hts _ hlk) (fun _ h => h) (v := om_cv r (.ref b)) ?_ hd (kk r H locs ls hag hP hD hS hl)
  rw [List.getElem?_map, List.getElem?_range (by rw [om_nf_eq hq]; exact hk)]
  show some (om_cv r (XS t a k)) = _
  rw [hv]
theorem jc_iast (g : Gc own bytes mL d n0 n1 J) {a i N : Nat} {x v : Int32} (hal : om_al[i]? = some (a, 10, N)) (hi : i < n) (hw : om_wr[t]? = some (a, x.toNatClampNeg, .int v)) (hin0 : vp_in x N) (hd : decode bytes pc = .ok (.iastore, 1)) (kk : J (pc + 1) L st n (t + 1)) : J pc L (.int v :: .int x :: .ref a :: st) n t := by
  obtain ⟨p, l, e, R, s, m, args, below, meth, c, Z, D, r0, cA, A, ⟨hx, hb, hml, hown, hts, hK, hNX, hA, hRf, hRl, hRc, hRs, hin⟩, rfl⟩ := g
  intro r H locs ls hag hP hD hS hl
  have hwA := cw_at (r := r) (cA := cA) (t := t) hal hi
  have ecX : ∀ t, cX r cA (XS t) a 10 N = .inl (cA 10, N, .inl (fun j => vI (XS t a j))) := fun t => by
    unfold cX
    rw [if_neg (by omega), if_neg (by omega), if_neg (by omega)]
  rw [ecX] at hwA
  refine va_iast hx hb hK hP hD hS i 1 hwA rfl hin0 hd (fun H1 locs1 hP1 hD1 hS1 => ?_)
  have eu : upd (fun j => vI (XS t a j)) x.toNatClampNeg v = fun j => vI (XS (t + 1) a j) := by
    rw [XS_s hw]
    funext j
    show (if j = x.toNatClampNeg then v else vI (XS t a j)) = vI (if a = a ∧ j = x.toNatClampNeg then .int v else XS t a j)
    by_cases q : j = x.toNatClampNeg
    · rw [if_pos q, if_pos ⟨rfl, q⟩]
      rfl
    · rw [if_neg q, if_neg (fun u => q u.2)]
  rw [eu, ← ecX, cw_set hal hi hw] at hP1 hD1
  exact kk r H1 locs1 ls hag hP1 hD1 hS1 hl
theorem jc_aastS (g : Gc own bytes mL d n0 n1 J) {a i N b i2 : Nat} {x : Int32} (hal : om_al[i]? = some (a, 12, N)) (hi : i < n) (hal2 : om_al[i2]? = some (b, 3, 0)) (hi2 : i2 < n) (hw : om_wr[t]? = some (a, x.toNatClampNeg, .ref b)) (hin0 : vp_in x N) (hd : decode bytes pc = .ok (.aastore, 1)) (kk : J (pc + 1) L st n (t + 1)) : J pc L (.ref b :: .int x :: .ref a :: st) n t := by
  obtain ⟨p, l, e, R, s, m, args, below, meth, c, Z, D, r0, cA, A, ⟨hx, hb, hml, hown, hts, hK, hNX, hA, hRf, hRl, hRc, hRs, hin⟩, rfl⟩ := g
  intro r H locs ls hag hP hD hS hl
  have hwA := cw_at (r := r) (cA := cA) (t := t) hal hi
  have hwB := cw_at (r := r) (cA := cA) (t := t) hal2 hi2
  have ecX : ∀ t, cX r cA (XS t) a 12 N = .inl (cA 12, N, .inr (.inr (.inr (.inr (fun j => vR r (XS t a j)))))) := fun t => by
    unfold cX
    rw [if_neg (by omega), if_neg (by omega), if_pos (by omega)]
  have ecB : cX r cA (XS t) b 3 0 = .inr (3, (List.range (om_nf 3)).map (fun j => om_cv r (XS t b j))) := by
    unfold cX
    rw [if_pos (by omega)]
  rw [ecX] at hwA
  rw [ecB] at hwB
  refine va_astq hx hb hK hP hD hS i 3 i2 3 hwA rfl hwB rfl hin0 hd (fun H1 locs1 hP1 hD1 hS1 => ?_)
  have eu : va_up (fun j => vR r (XS t a j)) x.toNatClampNeg (some (r b)) = fun j => vR r (XS (t + 1) a j) := by
    rw [XS_s hw]
    funext j
    show (if j = x.toNatClampNeg then some (r b) else vR r (XS t a j)) = vR r (if a = a ∧ j = x.toNatClampNeg then .ref b else XS t a j)
    by_cases q : j = x.toNatClampNeg
    · rw [if_pos q, if_pos ⟨rfl, q⟩]
      rfl
    · rw [if_neg q, if_neg (fun u => q u.2)]
  rw [eu, ← ecX, cw_set hal hi hw] at hP1 hD1
  exact kk r H1 locs1 ls hag hP1 hD1 hS1 hl
theorem jc_aastW (g : Gc own bytes mL d n0 n1 J) {a i N b i2 : Nat} {x : Int32} (hal : om_al[i]? = some (a, 13, N)) (hi : i < n) (hal2 : om_al[i2]? = some (b, 6, 0)) (hi2 : i2 < n) (hw : om_wr[t]? = some (a, x.toNatClampNeg, .ref b)) (hin0 : vp_in x N) (hd : decode bytes pc = .ok (.aastore, 1)) (kk : J (pc + 1) L st n (t + 1)) : J pc L (.ref b :: .int x :: .ref a :: st) n t := by
  obtain ⟨p, l, e, R, s, m, args, below, meth, c, Z, D, r0, cA, A, ⟨hx, hb, hml, hown, hts, hK, hNX, hA, hRf, hRl, hRc, hRs, hin⟩, rfl⟩ := g
  intro r H locs ls hag hP hD hS hl
  have hwA := cw_at (r := r) (cA := cA) (t := t) hal hi
  have hwB := cw_at (r := r) (cA := cA) (t := t) hal2 hi2
  have ecX : ∀ t, cX r cA (XS t) a 13 N = .inl (cA 13, N, .inr (.inr (.inr (.inr (fun j => vR r (XS t a j)))))) := fun t => by
    unfold cX
    rw [if_neg (by omega), if_neg (by omega), if_pos (by omega)]
  have ecB : cX r cA (XS t) b 6 0 = .inr (6, (List.range (om_nf 6)).map (fun j => om_cv r (XS t b j))) := by
    unfold cX
    rw [if_pos (by omega)]
  rw [ecX] at hwA
  rw [ecB] at hwB
  refine va_astq hx hb hK hP hD hS i 4 i2 6 hwA rfl hwB rfl hin0 hd (fun H1 locs1 hP1 hD1 hS1 => ?_)
  have eu : va_up (fun j => vR r (XS t a j)) x.toNatClampNeg (some (r b)) = fun j => vR r (XS (t + 1) a j) := by
    rw [XS_s hw]
    funext j
    show (if j = x.toNatClampNeg then some (r b) else vR r (XS t a j)) = vR r (if a = a ∧ j = x.toNatClampNeg then .ref b else XS t a j)
    by_cases q : j = x.toNatClampNeg
    · rw [if_pos q, if_pos ⟨rfl, q⟩]
      rfl
    · rw [if_neg q, if_neg (fun u => q u.2)]
  rw [eu, ← ecX, cw_set hal hi hw] at hP1 hD1
  exact kk r H1 locs1 ls hag hP1 hD1 hS1 hl
end JCM
theorem rc_blind {D : va_G} {r : Nat → Nat} {cA : Nat → ClassId} {n t sz : Nat} {av : List Value} : FrameBlind (va_Pc av (fun U => U.heap.size = sz ∧ va_P D om_cl (cw r cA n t) U.heap ∧ va_K D om_cl (om_tys cA) U ∧ va_D (AC r n sz) (cw r cA n t) ∧ NX U)) := by
  intro a U g mk q
  obtain ⟨q0, q1, qP, qK, qD, qE⟩ := q
  exact ⟨q0, q1, qP, va_K.moved (u := U) (U := U.calling g mk a) (Vm.Alike.refl U.vm) qK, qD, qE.same rfl⟩
/-- a call's words, of a constructor -/
def CBI (mi : Mi) (na : Nat) : Prop := Cond.instanceMethod mi.2.1 ∈ BIG ∧ Cond.initialized mi.2.1.cls ∈ BIG ∧ Cond.code mi.2.1 mi.2.2.1 mi.2.2.2.1 mi.2.2.2.2 ∈ BIG ∧ mi.2.1.name = "<init>" ∧ mi.2.2.2.2 = none ∧ mi.2.1.cls ≠ "java/lang/invoke/MethodHandle" ∧ mi.2.1.cls ≠ "java/lang/invoke/VarHandle" ∧ (parseMethodDescriptor mi.2.1.desc).map (fun d => d.parameters.length) = some na ∧ mi.2.2.2.1 ≤ 45
section JCC
variable {own : Nat} {bytes : ByteArray} {mL d n0 n1 : Nat} {J : Nat → Lc → List Value → Nat → Nat → Prop} {pc n t n' t' : Nat} {L : Lc} {mi : Mi} {idx na b : Nat} {As rest : List Value}
theorem AC_in {r : Nat → Nat} {cA : Nat → ClassId} {A : Nat → Prop} {H H0 : Heap} {locs : List Loc} (hD : va_D A (cw r cA n t)) (hA : ∀ q, H0.size ≤ q → A q) (hS : va_S A H0 H locs) : ∀ q, AC r n H.size q → A q := by
  intro q hq
  rcases hq with ⟨i, p, h1, h2, rfl⟩ | hq
  · exact hD.2 i _ (cw_at (k := p.2.1) (m := p.2.2) h2 h1)
  · exact hA q (Nat.le_trans hS.1 hq)
theorem AC_self {r : Nat → Nat} {cA : Nat → ClassId} {A : Nat → Prop} {sz : Nat} (hD : va_D A (cw r cA n t)) : va_D (AC r n sz) (cw r cA n t) := by
  refine ⟨hD.1, fun k q hk => ?_⟩
  have hl := (List.getElem?_eq_some_iff.mp hk).1
  have hkn : k < n := by
    unfold cw at hl
    rw [List.length_map, List.length_take] at hl
    omega
  unfold cw at hk
  rw [List.getElem?_map, List.getElem?_take_of_lt hkn] at hk
  cases h : om_al[k]? with
  | none => rw [h] at hk; cases hk
  | some p =>
    rw [h] at hk
    cases hk
    exact Or.inl ⟨k, p, hkn, h, rfl⟩
theorem jc_call (g : Gc own bytes mL (d + 1) n0 n1 J) (hM : Rc d mi (.ref b :: As) n t n' t') (w1 : Cond.methodLink (om_own own) idx mi.2.1 ∈ BIG) (hc : CBI mi na) (h0 : n0 ≤ n) (hnn : n ≤ n') (h1 : n' ≤ n1) (hn : As.length = na) (hokL : okL n n' L = true) (hokS : okS n n' rest = true) (hW : (rest.map fun v => v.category).sum ≤ 8) (hd : decode bytes pc = .ok (.invokespecial idx, 3)) (k : J (pc + 3) L rest n' t') : J pc L (As.reverse ++ .ref b :: rest) n t := by
  obtain ⟨p, l, e, R, s, m, args, below, meth, c, Z, D, r0, cA, A, ⟨hx, hb, hml, hown, hts, hK, hNX, hA, hRf, hRl, hRc, hRs, hin⟩, rfl⟩ := g
  intro r H locs ls hag hP hD hS hl
  obtain ⟨w2, w3, w4, w5, w6, w7, w8, w9, w10⟩ := hc
  have m0 := sl_mono h0
  have m1 := sl_mono hnn
  have m2 := sl_mono h1
  have e1 : n - n0 + (n' - n) = n' - n0 := by omega
  have e2 : sl n - sl n0 + (sl n' - sl n) = sl n' - sl n0 := by omega
  have hgood : GoodIn BIG (Cond.code mi.2.1 mi.2.2.1 mi.2.2.2.1 none :: BIG) := by
    apply om_good
    intro w hw
    rcases List.mem_cons.mp hw with rfl | hw
    · rw [← w6]; exact w4
    · exact hw
  have hroom : (om_rc d (n' - n) (sl n' - sl n)).frames + 1 ≤ R.frames ∧ 8 + (mi.2.2.2.1 + 11) + (om_rc d (n' - n) (sl n' - sl n)).locals ≤ R.locals := ⟨by show d + 1 ≤ R.frames; omega, by show 8 + (mi.2.2.2.1 + 11) + 64 * d ≤ R.locals; omega⟩
  have hAC := AC_in hD hA hS
  have hM2 := hM l D r cA H.size
  rw [w6] at hM2
  refine va_callv (pc := pc) (ls := ls) (rest := rest.map (om_cv r)) (va_runI (As := As.map (om_cv r)) (rest := rest.map (om_cv r)) (b := r b) (g := F0 m pc ls ((As.reverse ++ .ref b :: rest).map (om_cv r))) ⟨hx, hb, hml, hown, hts⟩ hM2 (cwI na hts hgood rfl rfl rfl (hts _ w3) (hts _ w1) (hts _ w2) w5 ⟨w7, w8, w9⟩ hroom)
    ⟨rc_blind, fun U hU hWm => ⟨rfl, by rw [hU], by rw [hU]; exact hP, va_K.moved hWm.alike hK, AC_self hD, hNX.warm hWm⟩⟩ rfl (by rw [List.length_map]; exact hn) hl.1 (by simp [om_cv]) (lv_room (by rw [om_cats]; exact hW)) hd ⟨by omega, by omega⟩) hS (fun q _ h => hAC q h) hAC (fun r' tt H1 locs1 ht hvm hpost hB hz1 hk1 hS1 => ?_)
  obtain ⟨hP1, hD1⟩ := hB
  rw [ht] at hP1
  rw [e1, e2]
  have kk := k r' H1 locs1 ls (hag.tr hpost h0 hnn) hP1 ⟨hD1.1, fun i q hq => hAC _ (hD1.2 i q hq)⟩ hS1 (okL_lv hokL hpost hl)
  rw [okS_map hokS hpost] at kk
  exact kk
theorem jc_callN (g : Gc own bytes mL (d + 1) n0 n1 J) (hM : Rc d mi (.ref b :: As) n t n' t') (w1 : ∀ U, NX U → va_Nw (.methodLinkNest (om_own own) idx mi.2.1 RX7) U) (hc : CBI mi na) (h0 : n0 ≤ n) (hnn : n ≤ n') (h1 : n' ≤ n1) (hn : As.length = na) (hokL : okL n n' L = true) (hokS : okS n n' rest = true) (hW : (rest.map fun v => v.category).sum ≤ 8) (hd : decode bytes pc = .ok (.invokespecial idx, 3)) (k : J (pc + 3) L rest n' t') : J pc L (As.reverse ++ .ref b :: rest) n t := by
  obtain ⟨p, l, e, R, s, m, args, below, meth, c, Z, D, r0, cA, A, ⟨hx, hb, hml, hown, hts, hK, hNX, hA, hRf, hRl, hRc, hRs, hin⟩, rfl⟩ := g
  intro r H locs ls hag hP hD hS hl
  obtain ⟨w2, w3, w4, w5, w6, w7, w8, w9, w10⟩ := hc
  have m0 := sl_mono h0
  have m1 := sl_mono hnn
  have m2 := sl_mono h1
  have e1 : n - n0 + (n' - n) = n' - n0 := by omega
  have e2 : sl n - sl n0 + (sl n' - sl n) = sl n' - sl n0 := by omega
  have hgood : GoodIn BIG (Cond.code mi.2.1 mi.2.2.1 mi.2.2.2.1 none :: BIG) := by
    apply om_good
    intro w hw
    rcases List.mem_cons.mp hw with rfl | hw
    · rw [← w6]; exact w4
    · exact hw
  have hroom : (om_rc d (n' - n) (sl n' - sl n)).frames + 1 ≤ R.frames ∧ 8 + (mi.2.2.2.1 + 11) + (om_rc d (n' - n) (sl n' - sl n)).locals ≤ R.locals := ⟨by show d + 1 ≤ R.frames; omega, by show 8 + (mi.2.2.2.1 + 11) + 64 * d ≤ R.locals; omega⟩
  have hAC := AC_in hD hA hS
  have hM2 := hM l D r cA H.size
  rw [w6] at hM2
  refine va_callv (pc := pc) (ls := ls) (rest := rest.map (om_cv r)) (va_runIN (As := As.map (om_cv r)) (rest := rest.map (om_cv r)) (b := r b) (g := F0 m pc ls ((As.reverse ++ .ref b :: rest).map (om_cv r))) ⟨hx, hb, hml, hown, hts⟩ hM2 (⟨va_cnB na hts hgood rfl rfl rfl (w1 s hNX) (hts _ w3) ⟨w7, w8, w9⟩ hroom, w5, hts _ w2⟩)
    ⟨rc_blind, fun U hU hWm => ⟨rfl, by rw [hU], by rw [hU]; exact hP, va_K.moved hWm.alike hK, AC_self hD, hNX.warm hWm⟩⟩ rfl (by rw [List.length_map]; exact hn) hl.1 (by simp [om_cv]) (lv_room (by rw [om_cats]; exact hW)) hd ⟨by omega, by omega⟩) hS (fun q _ h => hAC q h) hAC (fun r' tt H1 locs1 ht hvm hpost hB hz1 hk1 hS1 => ?_)
  obtain ⟨hP1, hD1⟩ := hB
  rw [ht] at hP1
  rw [e1, e2]
  have kk := k r' H1 locs1 ls (hag.tr hpost h0 hnn) hP1 ⟨hD1.1, fun i q hq => hAC _ (hD1.2 i q hq)⟩ hS1 (okL_lv hokL hpost hl)
  rw [okS_map hokS hpost] at kk
  exact kk
end JCC
