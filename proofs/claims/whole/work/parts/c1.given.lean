/-! the law's start: what is given of constants -/
def Fl : List Cond := flatC (Jvm.Cond.and given_1 narrow_1)
def tmS (i : Nat) : Term := Term.string RX4 ((om_sx.map (fun q => q.1)).getD i 0)
def sLn : List Nat := om_sx.map fun q => q.2.2.length
def sBy : List (List Int32) := om_sx.map fun q => q.2.2
def tvS (i : Nat) : Term := .field (tmS i) "java/lang/String" "value" "[B"
def ix_ex : List Nat := [184, 204, 225, 247, 269, 292, 41, 49, 59, 69, 80, 93, 105, 117, 130, 145, 164]
def ix_co : List Nat := [185, 205, 226, 248, 270, 293, 42, 50, 60, 70, 81, 94, 106, 118, 131, 146, 165]
def ix_ar : List Nat := [186, 206, 227, 249, 271, 294, 43, 51, 61, 71, 82, 95, 107, 119, 132, 147, 166]
def ix_le : List Nat := [187, 207, 228, 250, 272, 295, 44, 52, 62, 72, 83, 96, 108, 120, 133, 148, 167]
def ix_el : List (List Nat) := [[188, 189, 190, 191, 192], [208, 209, 210, 211, 212], [229, 230, 231, 232, 233], [251, 252, 253, 254], [273, 274, 275, 276], [296], [45, 46, 47, 48], [53, 54, 55, 56, 57], [63, 64, 65, 66], [73, 74, 75, 76], [84, 85, 86, 87, 88], [97, 98, 99], [109, 110], [121, 122], [134, 135, 136], [149, 150, 151, 152, 153, 154], [168, 169, 170, 171, 172, 173]]
def ix_ne : List (Nat × Nat × Nat) := [(0, 1, 224), (0, 2, 245), (0, 3, 266), (0, 4, 288), (0, 5, 308), (1, 2, 246), (1, 3, 267), (1, 4, 289), (1, 5, 309), (2, 3, 268), (2, 4, 290), (2, 5, 310), (3, 4, 291), (3, 5, 311), (4, 5, 312), (6, 0, 193), (6, 1, 213), (6, 2, 234), (6, 3, 255), (6, 4, 277), (6, 5, 297), (6, 7, 58), (6, 8, 67), (6, 9, 77), (6, 10, 89), (6, 11, 100), (6, 12, 111), (6, 13, 123), (6, 14, 137), (6, 15, 155), (6, 16, 174), (7, 0, 194), (7, 1, 214), (7, 2, 235), (7, 3, 256), (7, 4, 278), (7, 5, 298), (7, 8, 68), (7, 9, 78), (7, 10, 90), (7, 11, 101), (7, 12, 112), (7, 13, 124), (7, 14, 138), (7, 15, 156), (7, 16, 175), (8, 0, 195), (8, 1, 215), (8, 2, 236), (8, 3, 257), (8, 4, 279), (8, 5, 299), (8, 9, 79), (8, 10, 91), (8, 11, 102), (8, 12, 113), (8, 13, 125), (8, 14, 139), (8, 15, 157), (8, 16, 176), (9, 0, 196), (9, 1, 216), (9, 2, 237), (9, 3, 258), (9, 4, 280), (9, 5, 300), (9, 10, 92), (9, 11, 103), (9, 12, 114), (9, 13, 126), (9, 14, 140), (9, 15, 158), (9, 16, 177), (10, 0, 197), (10, 1, 217), (10, 2, 238), (10, 3, 259), (10, 4, 281), (10, 5, 301), (10, 11, 104), (10, 12, 115), (10, 13, 127), (10, 14, 141), (10, 15, 159), (10, 16, 178), (11, 0, 198), (11, 1, 218), (11, 2, 239), (11, 3, 260), (11, 4, 282), (11, 5, 302), (11, 12, 116), (11, 13, 128), (11, 14, 142), (11, 15, 160), (11, 16, 179), (12, 0, 199), (12, 1, 219), (12, 2, 240), (12, 3, 261), (12, 4, 283), (12, 5, 303), (12, 13, 129), (12, 14, 143), (12, 15, 161), (12, 16, 180), (13, 0, 200), (13, 1, 220), (13, 2, 241), (13, 3, 262), (13, 4, 284), (13, 5, 304), (13, 14, 144), (13, 15, 162), (13, 16, 181), (14, 0, 201), (14, 1, 221), (14, 2, 242), (14, 3, 263), (14, 4, 285), (14, 5, 305), (14, 15, 163), (14, 16, 182), (15, 0, 202), (15, 1, 222), (15, 2, 243), (15, 3, 264), (15, 4, 286), (15, 5, 306), (15, 16, 183), (16, 0, 203), (16, 1, 223), (16, 2, 244), (16, 3, 265), (16, 4, 287), (16, 5, 307)]
def ix_sr : List Nat := [558, 567, 576, 585, 586, 587, 475, 528, 529, 530, 531, 532, 545, 550, 551, 556, 557]
set_option maxRecDepth 100000 in
theorem st_ex : (List.range 17).all (fun i => Fl[ix_ex.getD i 0]? == some (Cond.exactly (tmS i) "java/lang/String")) = true := by decide +kernel
set_option maxRecDepth 100000 in
theorem st_co : (List.range 17).all (fun i => Fl[ix_co.getD i 0]? == some (Cond.eq (.field (tmS i) "java/lang/String" "coder" "B") (.int 0))) = true := by decide +kernel
set_option maxRecDepth 100000 in
theorem st_ar : (List.range 17).all (fun i => Fl[ix_ar.getD i 0]? == some (Cond.arrayOf (tvS i) .byte)) = true := by decide +kernel
set_option maxRecDepth 100000 in
theorem st_le : (List.range 17).all (fun i => Fl[ix_le.getD i 0]? == some (Cond.eq (.length (tvS i)) (.int (Int32.ofNat (sLn.getD i 0))))) = true := by decide +kernel
set_option maxRecDepth 100000 in
theorem st_el : (List.range 17).all (fun i => (List.range (sLn.getD i 0)).all (fun j => Fl[(ix_el.getD i []).getD j 0]? == some (Cond.eq (.elem (tvS i) (.int (Int32.ofNat j))) (.int ((sBy.getD i []).getD j 0))))) = true := by decide +kernel
set_option maxRecDepth 100000 in
theorem st_ne : ix_ne.all (fun q => Fl[q.2.2]? == some (Cond.not (Cond.eq (tmS q.1) (tmS q.2.1)))) = true := by decide +kernel
theorem st_nc : (List.range 17).all (fun i => (List.range 17).all (fun j => i == j || ix_ne.any (fun q => (q.1 == i && q.2.1 == j) || (q.1 == j && q.2.1 == i)))) = true := by decide +kernel
theorem st_ln : (List.range 17).all (fun i => sLn.getD i 0 < 100) = true := by decide +kernel
set_option maxRecDepth 100000 in
theorem st_sr : (List.range 17).all (fun i => lw_tbl[ix_sr.getD i 0]? == some (Cond.stringRef RX4 ((om_sx.map (fun q => q.1)).getD i 0) ((om_sx.map (fun q => q.2.1)).getD i ""))) = true := by decide +kernel
section C1
variable {s : State} {b : Nat}
theorem lw_in (hts : ∀ w ∈ lw_tbl, w.before #[Value.ref b] s = true) (i : Nat) {w : Cond} (h : lw_tbl[i]? = some w) : w.before #[Value.ref b] s = true := hts w (List.mem_of_getElem? h)
theorem fl_in (hgv : (Jvm.Cond.and given_1 narrow_1).before #[Value.ref b] s = true) (i : Nat) {w : Cond} (h : Fl[i]? = some w) : w.before #[Value.ref b] s = true := flat_of_before _ hgv w (List.mem_of_getElem? h)
theorem all_r {n : Nat} {f : Nat → Bool} (h : (List.range n).all f = true) {i : Nat} (hi : i < n) : f i = true := List.all_eq_true.mp h i (List.mem_range.mpr hi)
theorem law_rows (hts : ∀ w ∈ lw_tbl, w.before #[Value.ref b] s = true) (hgv : (Jvm.Cond.and given_1 narrow_1).before #[Value.ref b] s = true) {A : Nat → Prop} (hA : ∀ a : Nat, a < s.heap.size → ¬ A a) : (∃ t, va_Z "OneMoves" "LAW_LEAST" "[I" (.ref t) A s s.heap ∧ va_T .int t 4 (fun j => .int (om_least j)) A s s.heap) ∧ (∃ t, va_Z "OneMoves" "LAW_MOST" "[I" (.ref t) A s s.heap ∧ va_T .int t 4 (fun j => .int (om_most j)) A s s.heap) := by
  refine ⟨?_, ?_⟩
  · have hel : ∀ j : Nat, j < 4 → (Term.elem (.static "OneMoves" "LAW_LEAST" "[I") (.int (Int32.ofNat j))).eval #[Value.ref b] s none [] s = some (.int (om_least j)) := fun j hj => by
      have hk : j = 0 ∨ j = 1 ∨ j = 2 ∨ j = 3 := by omega
      rcases hk with rfl | rfl | rfl | rfl
      · exact va_eqt (fl_in hgv 12 (by decide +kernel))
      · exact va_eqt (fl_in hgv 13 (by decide +kernel))
      · exact va_eqt (fl_in hgv 14 (by decide +kernel))
      · exact va_eqt (fl_in hgv 15 (by decide +kernel))
    obtain ⟨t, h1, h2⟩ := va_Tof (args := #[Value.ref b]) (s := s) (tm := .static "OneMoves" "LAW_LEAST" "[I") (ty := .int) (N := 4) (f := fun j => .int (om_least j)) (A := A) (by omega) (fl_in hgv 10 (by decide +kernel)) (va_eqt (fl_in hgv 11 (by decide +kernel))) hel hA
    exact ⟨t, va_Zof (lw_in hts 582 (by decide +kernel)) (lw_in hts 77 (by decide +kernel)) h1 hA, h2⟩
  · have hel : ∀ j : Nat, j < 4 → (Term.elem (.static "OneMoves" "LAW_MOST" "[I") (.int (Int32.ofNat j))).eval #[Value.ref b] s none [] s = some (.int (om_most j)) := fun j hj => by
      have hk : j = 0 ∨ j = 1 ∨ j = 2 ∨ j = 3 := by omega
      rcases hk with rfl | rfl | rfl | rfl
      · exact va_eqt (fl_in hgv 19 (by decide +kernel))
      · exact va_eqt (fl_in hgv 20 (by decide +kernel))
      · exact va_eqt (fl_in hgv 21 (by decide +kernel))
      · exact va_eqt (fl_in hgv 22 (by decide +kernel))
    obtain ⟨t, h1, h2⟩ := va_Tof (args := #[Value.ref b]) (s := s) (tm := .static "OneMoves" "LAW_MOST" "[I") (ty := .int) (N := 4) (f := fun j => .int (om_most j)) (A := A) (by omega) (fl_in hgv 17 (by decide +kernel)) (va_eqt (fl_in hgv 18 (by decide +kernel))) hel hA
    exact ⟨t, va_Zof (lw_in hts 584 (by decide +kernel)) (lw_in hts 77 (by decide +kernel)) h1 hA, h2⟩
theorem law_texts (hts : ∀ w ∈ lw_tbl, w.before #[Value.ref b] s = true) (hgv : (Jvm.Cond.and given_1 narrow_1).before #[Value.ref b] s = true) {A : Nat → Prop} (hA : ∀ a : Nat, a < s.heap.size → ¬ A a) : ∃ adK adV : Nat → Nat, vk_S 17 sLn sBy adK adV A s s.heap ∧ ∀ (i : Nat) (q : Nat × String × List Int32), om_sx[i]? = some q → vk_R RX4 q.1 q.2.1 (adK i) s := by
  have fe : ∀ {i : Nat} {w : Cond}, (Fl[i]? == some w) = true → w.before #[Value.ref b] s = true := fun h => fl_in hgv _ (by simpa using h)
  obtain ⟨adK, adV, h1, h2⟩ := vk_Sof (args := #[Value.ref b]) (s := s) (N := 17) (tm := tmS) (len := sLn) (byt := sBy) (A := A) (fun i hi => by
      have := all_r st_ln hi
      simp only [decide_eq_true_eq] at this
      omega) (fun i hi => fe (all_r st_ex hi)) (fun i hi => fe (all_r st_co hi)) (fun i hi => fe (all_r st_ar hi)) (fun i hi => fe (all_r st_le hi)) (fun i hi j hj => fe (all_r (all_r st_el hi) hj)) (fun i j hi hj hij => by
      have c := all_r (all_r st_nc hi) hj
      rw [Bool.or_eq_true] at c
      rcases c with c | c
      · exact absurd (by simpa using c) hij
      · obtain ⟨q, hq, hc⟩ := List.any_eq_true.mp c
        have hb2 := fe (List.all_eq_true.mp st_ne q hq)
        rw [Bool.or_eq_true, Bool.and_eq_true, Bool.and_eq_true] at hc
        rcases hc with ⟨u, v⟩ | ⟨u, v⟩
        · have u' : q.1 = i := by simpa using u
          have v' : q.2.1 = j := by simpa using v
          rw [u', v'] at hb2
          exact Or.inl hb2
        · have u' : q.1 = j := by simpa using u
          have v' : q.2.1 = i := by simpa using v
          rw [u', v'] at hb2
          exact Or.inr hb2) hA
  refine ⟨adK, adV, h1, fun i q hq => ?_⟩
  have hl : i < 17 := (List.getElem?_eq_some_iff.mp hq).1
  have e1 : (om_sx.map (fun q => q.1)).getD i 0 = q.1 := by rw [List.getD_eq_getElem?_getD, List.getElem?_map, hq]; rfl
  have e2 : (om_sx.map (fun q => q.2.1)).getD i "" = q.2.1 := by rw [List.getD_eq_getElem?_getD, List.getElem?_map, hq]; rfl
  have h3 := h2 i hl
  unfold tmS at h3
  rw [e1] at h3
  have h4 : (Cond.stringRef RX4 q.1 q.2.1).before #[Value.ref b] s = true := by
    have := all_r st_sr hl
    rw [e1, e2] at this
    exact lw_in hts _ (by simpa using this)
  exact vk_R.of h4 h3
theorem law_stat (hts : ∀ w ∈ lw_tbl, w.before #[Value.ref b] s = true) (hgv : (Jvm.Cond.and given_1 narrow_1).before #[Value.ref b] s = true) {A : Nat → Prop} (hA : ∀ a : Nat, a < s.heap.size → ¬ A a) : va_Z "java/lang/String" "COMPACT_STRINGS" "Z" (.int 1) A s s.heap ∧ va_Zq "jdk/internal/util/Preconditions" "SIOOBE_FORMATTER" "Ljava/util/function/BiFunction;" A s s.heap ∧ (va_Nw (.fieldLinkNest RX4 102 "OneMoves" "LAW_LEAST" "[I" "OneMoves") s ∧ va_Nw (.fieldLinkNest RX4 106 "OneMoves" "LAW_MOST" "[I" "OneMoves") s) := by
  refine ⟨va_Zof (lw_in hts 489 (by decide +kernel)) (lw_in hts 87 (by decide +kernel)) (va_eqt (fl_in hgv 4 (by decide +kernel))) hA, va_Zqof (lw_in hts 505 (by decide +kernel)) (lw_in hts 89 (by decide +kernel)) (fl_in hgv 5 (by decide +kernel)) hA, va_Nw.of rfl (lw_in hts 581 (by decide +kernel)), va_Nw.of rfl (lw_in hts 583 (by decide +kernel))⟩
theorem law_NX (hts : ∀ w ∈ lw_tbl, w.before #[Value.ref b] s = true) : NX s := ⟨⟨va_AO.of (lw_in hts 266 (by decide +kernel)), va_AO.of (lw_in hts 114 (by decide +kernel)), (lw_in hts 375 (by decide +kernel) : (Cond.arrayOver (.array .long)).before #[Value.ref b] s = true)⟩, va_Nw.of rfl (lw_in hts 117 (by decide +kernel)), va_Nw.of rfl (lw_in hts 161 (by decide +kernel)), va_Nw.of rfl (lw_in hts 316 (by decide +kernel)), va_Nw.of rfl (lw_in hts 267 (by decide +kernel)), va_Nw.of rfl (lw_in hts 343 (by decide +kernel)), va_Nw.of rfl (lw_in hts 370 (by decide +kernel))⟩
theorem law_K (hts : ∀ w ∈ lw_tbl, w.before #[Value.ref b] s = true) : ∃ (D : va_G) (cA : Nat → ClassId), va_K D om_cl (om_tys cA) s := by
  have hB : ∀ w ∈ BIG, w.before #[Value.ref b] s = true := fun w h => hts w (List.mem_filter.mp h).1
  have kn : ∀ (ci : Nat) (q : vw_C) (n : Nat), om_cl[ci]? = some q → (Cond.instantiable q.1 n).before #[Value.ref b] s = true → ∃ (cC : ClassId) (iS : Nat → Nat), u_Kn s q.1 q.2.1 q.2.2 cC iS := fun ci q n hq hi => u_known hB (om_in ci q hq).1 hi
  have k0 := kn 0 _ _ rfl (hB _ wn_0)
  have k1 := kn 1 _ _ rfl (hB _ wn_1)
  have k2 := kn 2 _ _ rfl (hB _ wn_2)
  have k3 := kn 3 _ _ rfl (hB _ wn_3)
  have k4 := kn 4 _ _ rfl (hB _ wn_4)
  have k5 := kn 5 _ _ rfl (hB _ wn_5)
  have k6 := kn 6 _ _ rfl (hB _ wn_6)
  have k7 := kn 7 _ _ rfl (hB _ wn_7)
  have k8 := kn 8 _ _ rfl (hB _ wn_8)
  have ka : ∀ ci : Nat, ∃ q : ClassId × (Nat → Nat), ∀ p : vw_C, om_cl[ci]? = some p → u_Kn s p.1 p.2.1 p.2.2 q.1 q.2 := by
    intro ci
    have one : ∀ {p0 : vw_C}, om_cl[ci]? = some p0 → (∃ (cC : ClassId) (iS : Nat → Nat), u_Kn s p0.1 p0.2.1 p0.2.2 cC iS) → ∃ q : ClassId × (Nat → Nat), ∀ p : vw_C, om_cl[ci]? = some p → u_Kn s p.1 p.2.1 p.2.2 q.1 q.2 := fun {p0} hp hk => by
      obtain ⟨cC, iS, h⟩ := hk
      refine ⟨(cC, iS), fun p hp2 => ?_⟩
      cases Option.some.inj (hp.symm.trans hp2)
      exact h
    match ci with
    | 0 => exact one rfl k0
    | 1 => exact one rfl k1
    | 2 => exact one rfl k2
    | 3 => exact one rfl k3
    | 4 => exact one rfl k4
    | 5 => exact one rfl k5
    | 6 => exact one rfl k6
    | 7 => exact one rfl k7
    | 8 => exact one rfl k8
    | n + 9 => exact ⟨((k0.choose), fun _ => 0), fun p hp => by simp [om_cl] at hp⟩
  obtain ⟨f, hf⟩ := Classical.axiomOfChoice ka
  have pr : ∀ ty : FieldType, (∀ C, ty ≠ .object C) → (Cond.arrayClass ty).before #[Value.ref b] s = true → ∃ c : ClassId, ArrOfT s c ty ∧ va_RA s c ty := fun ty hty h => by
    obtain ⟨cA, kA, comp, h1, h2, h3⟩ := Cond.arrayClass_spec h
    refine ⟨cA, fun n z => ⟨fun k u => (by cases u), kA, h2, comp, h3⟩, ?_⟩
    cases ty with
    | object C => exact absurd rfl (hty C)
    | _ => exact h1
  have ob : ∀ C : String, va_AO C s → ∃ c : ClassId, ArrOfT s c (.object C) ∧ va_RA s c (.object C) := fun C h => by
    obtain ⟨comp, c, k, h1, h2, h3, h4, h5⟩ := Cond.arrayOver_spec h
    exact ⟨c, fun n z => ⟨fun k u => (by cases u), k, h3, comp, h4⟩, k, comp, h3, h4, h1, h5⟩
  have ol : va_OL s → ∃ c : ClassId, ArrOfT s c (.array .long) ∧ va_RA s c (.array .long) := fun h => by
    obtain ⟨comp, c, k, h1, h2, h3, h4, h5⟩ := arrayOverA_spec h
    exact ⟨c, fun n z => ⟨fun k u => (by cases u), k, h3, comp, h4⟩, h5⟩
  obtain ⟨⟨n1, n2, n3⟩, -⟩ := law_NX hts
  obtain ⟨c9, a9⟩ := pr .byte (fun C h => by cases h) (hB _ wa_b)
  obtain ⟨c10, a10⟩ := pr .int (fun C h => by cases h) (hB _ wa_i)
  obtain ⟨c11, a11⟩ := pr .long (fun C h => by cases h) (hB _ wa_j)
  obtain ⟨c12, a12⟩ := ob RX3 n1
  obtain ⟨c13, a13⟩ := ob RX6 n2
  obtain ⟨c14, a14⟩ := ol n3
  refine ⟨(fun ci => (f ci).1, fun ci => (f ci).2), fun k => if k = 9 then c9 else if k = 10 then c10 else if k = 11 then c11 else if k = 12 then c12 else if k = 13 then c13 else c14, fun c q hq => hf c q hq, fun k q hq => ?_⟩
  match k with
  | 0 => cases hq; exact a9
  | 1 => cases hq; exact a10
  | 2 => cases hq; exact a11
  | 3 => cases hq; exact a12
  | 4 => cases hq; exact a13
  | 5 => cases hq; exact a14
  | n + 6 => simp [om_tys] at hq
end C1
