abbrev Mm : Type := (Nat → Nat → Int32) × (Nat → Nat → Int64)
abbrev Lc : Type := List (Option Value)
def om_cv (r : Nat → Nat) : Value → Value
  | .ref a => .ref (r a)
  | v => v
theorem om_cat (r : Nat → Nat) (v : Value) : (om_cv r v).category = v.category := by cases v <;> rfl
theorem om_cats (r : Nat → Nat) (st : List Value) : ((st.map (om_cv r)).map fun v => v.category).sum = (st.map fun v => v.category).sum := by
  rw [List.map_map]
  congr 1
  apply List.map_congr_left
  intro v _
  exact om_cat r v
/-- the words that every contract takes: those of the tables that may be handed on -/
def BIG : List Cond := lw_tbl.filter goodWord
theorem big_good : GoodIn BIG BIG := fun w h => ⟨h, good_of_word (List.mem_filter.mp h).2⟩
theorem big_mem {w : Cond} (i : Nat) (h : lw_tbl[i]? = some w) (g : goodWord w = true) : w ∈ BIG := List.mem_filter.mpr ⟨List.mem_of_getElem? h, g⟩
theorem big_places (ws : List Cond) (ps : List Nat) (hp : ws = ps.filterMap (fun i => lw_tbl[i]?)) (h : ws.all goodWord = true) : ∀ w ∈ ws, w ∈ BIG := by
  intro w hw
  have h1 := List.all_eq_true.mp h w hw
  rw [hp] at hw
  obtain ⟨i, -, hi⟩ := List.mem_filterMap.mp hw
  exact List.mem_filter.mpr ⟨List.mem_of_getElem? hi, h1⟩
def om_own : Nat → String := fun k => match k with
  | 0 => RX0
  | 1 => RX1
  | 2 => RX2
  | 3 => RX3
  | 4 => RX4
  | 5 => RX5
  | 6 => RX6
  | 7 => RX7
  | 8 => RX8
  | 10 => RJ0
  | 11 => RJ1
  | 12 => RJ3
  | 13 => RJ6
  | _ => RL
abbrev om_cl : List vw_C := [(RX0, TX0, 6), (RX1, TX1, 6), (RX2, TX2, 12), (RX3, TX3, 7), (RX4, TX4, 6), (RX5, TX5, 11), (RX6, TX6, 8), (RX7, TX7, 10), (RX8, TX8, 59)]
def om_ty : Nat → Nat → FieldType := fun c => match c with
  | 0 => tyX0
  | 1 => tyX1
  | 2 => tyX2
  | 3 => tyX3
  | 4 => tyX4
  | 5 => tyX5
  | 6 => tyX6
  | 7 => tyX7
  | _ => tyX8
set_option maxRecDepth 20000 in
theorem om_in0 : ∀ w ∈ u_ws RX0 TX0 6, w ∈ BIG := big_places _ [355, 357, 359, 361, 363, 365] (by decide +kernel) (by decide +kernel)
set_option maxRecDepth 20000 in
theorem om_in1 : ∀ w ∈ u_ws RX1 TX1 6, w ∈ BIG := big_places _ [388, 390, 392, 394, 396, 398] (by decide +kernel) (by decide +kernel)
set_option maxRecDepth 20000 in
theorem om_in2 : ∀ w ∈ u_ws RX2 TX2 12, w ∈ BIG := big_places _ [287, 289, 291, 293, 295, 297, 299, 301, 303, 305, 307, 309] (by decide +kernel) (by decide +kernel)
set_option maxRecDepth 20000 in
theorem om_in3 : ∀ w ∈ u_ws RX3 TX3 7, w ∈ BIG := big_places _ [144, 146, 148, 150, 152, 154, 156] (by decide +kernel) (by decide +kernel)
set_option maxRecDepth 20000 in
theorem om_in4 : ∀ w ∈ u_ws RX4 TX4 6, w ∈ BIG := big_places _ [327, 329, 331, 333, 335, 337] (by decide +kernel) (by decide +kernel)
set_option maxRecDepth 20000 in
theorem om_in5 : ∀ w ∈ u_ws RX5 TX5 11, w ∈ BIG := big_places _ [242, 244, 246, 248, 250, 252, 254, 256, 258, 260, 262] (by decide +kernel) (by decide +kernel)
set_option maxRecDepth 20000 in
theorem om_in6 : ∀ w ∈ u_ws RX6 TX6 8, w ∈ BIG := big_places _ [194, 196, 198, 200, 202, 204, 206, 208] (by decide +kernel) (by decide +kernel)
set_option maxRecDepth 20000 in
theorem om_in7 : ∀ w ∈ u_ws RX7 TX7 10, w ∈ BIG := big_places _ [412, 414, 416, 418, 420, 422, 424, 426, 428, 430] (by decide +kernel) (by decide +kernel)
set_option maxRecDepth 20000 in
theorem om_in8 : ∀ w ∈ u_ws RX8 TX8 59, w ∈ BIG := big_places _ [1103, 1105, 1107, 1109, 1111, 1113, 1115, 1117, 1119, 1121, 1123, 1125, 1127, 1129, 1131, 1133, 1135, 1137, 1139, 1141, 1143, 1145, 1147, 1149, 1151, 1153, 1155, 1157, 1159, 1161, 1163, 1165, 1167, 1169, 1171, 1173, 1175, 1177, 1179, 1181, 1183, 1185, 1187, 1189, 1191, 1193, 1195, 1197, 1199, 1201, 1203, 1205, 1207, 1209, 1211, 1213, 1215, 1217, 1219] (by decide +kernel) (by decide +kernel)
theorem om_in : ∀ (ci : Nat) (q : vw_C), om_cl[ci]? = some q → (∀ w ∈ u_ws q.1 q.2.1 q.2.2, w ∈ BIG) ∧ (∀ k, k < q.2.2 → parseFieldDescriptor (q.2.1 k).2.2.1 = some (om_ty ci k)) ∧ (∀ a, a < q.2.2 → ∀ b, b < q.2.2 → a ≠ b → (q.2.1 a).2.1 ≠ (q.2.1 b).2.1) ∧ q.1 = om_own ci ∧ ci < 9
  | 0, q, h => by cases h; exact ⟨om_in0, tyX0_ok, nmX0, rfl, by decide⟩
  | 1, q, h => by cases h; exact ⟨om_in1, tyX1_ok, nmX1, rfl, by decide⟩
  | 2, q, h => by cases h; exact ⟨om_in2, tyX2_ok, nmX2, rfl, by decide⟩
  | 3, q, h => by cases h; exact ⟨om_in3, tyX3_ok, nmX3, rfl, by decide⟩
  | 4, q, h => by cases h; exact ⟨om_in4, tyX4_ok, nmX4, rfl, by decide⟩
  | 5, q, h => by cases h; exact ⟨om_in5, tyX5_ok, nmX5, rfl, by decide⟩
  | 6, q, h => by cases h; exact ⟨om_in6, tyX6_ok, nmX6, rfl, by decide⟩
  | 7, q, h => by cases h; exact ⟨om_in7, tyX7_ok, nmX7, rfl, by decide⟩
  | 8, q, h => by cases h; exact ⟨om_in8, tyX8_ok, nmX8, rfl, by decide⟩
  | n + 9, q, h => by simp [om_cl] at h
/-- the cells of the system: address, kind (a class below 9; 9 bytes, 10 ints, 11 longs, 12 Stands, 13 Works, 14 rows of longs), length -/
def om_obj : List (Nat × Nat × Nat) := [(1, 7, 0), (100, 5, 0), (101, 10, 3), (102, 10, 6), (103, 13, 6), (104, 10, 4), (105, 10, 4), (106, 10, 4), (110, 6, 0), (111, 6, 0), (112, 6, 0), (113, 6, 0), (114, 6, 0), (115, 6, 0), (200, 5, 0), (201, 10, 3), (202, 10, 6), (203, 13, 6), (204, 10, 4), (205, 10, 4), (206, 10, 4), (210, 6, 0), (211, 6, 0), (212, 6, 0), (213, 6, 0), (214, 6, 0), (215, 6, 0), (300, 5, 0), (301, 10, 3), (302, 10, 6), (303, 13, 6), (304, 10, 4), (305, 10, 4), (306, 10, 4), (310, 6, 0), (311, 6, 0), (312, 6, 0), (313, 6, 0), (314, 6, 0), (315, 6, 0), (1000, 3, 0), (1001, 10, 3), (1002, 10, 6), (1003, 10, 6), (1004, 10, 6), (1010, 3, 0), (1011, 10, 3), (1012, 10, 6), (1013, 10, 6), (1014, 10, 6), (1020, 3, 0), (1021, 10, 3), (1022, 10, 6), (1023, 10, 6), (1024, 10, 6), (1030, 3, 0), (1031, 10, 3), (1032, 10, 6), (1033, 10, 6), (1034, 10, 6), (1040, 3, 0), (1041, 10, 3), (1042, 10, 6), (1043, 10, 6), (1044, 10, 6), (1050, 3, 0), (1051, 10, 3), (1052, 10, 6), (1053, 10, 6), (1054, 10, 6), (1060, 3, 0), (1061, 10, 3), (1062, 10, 6), (1063, 10, 6), (1064, 10, 6), (1070, 3, 0), (1071, 10, 3), (1072, 10, 6), (1073, 10, 6), (1074, 10, 6), (1080, 3, 0), (1081, 10, 3), (1082, 10, 6), (1083, 10, 6), (1084, 10, 6), (1090, 3, 0), (1091, 10, 3), (1092, 10, 6), (1093, 10, 6), (1094, 10, 6), (500, 4, 0), (501, 9, 240), (510, 2, 0), (511, 12, 7), (512, 10, 6), (513, 10, 6), (520, 0, 0), (521, 10, 30), (530, 1, 0), (531, 10, 4), (532, 10, 4), (533, 14, 4), (534, 11, 40), (535, 11, 40), (536, 11, 40), (537, 11, 40), (538, 10, 4), (539, 10, 4), (540, 10, 4), (550, 10, 18), (600, 8, 0), (601, 10, 3), (602, 10, 6), (603, 10, 48), (604, 10, 4), (605, 10, 4), (606, 10, 4), (607, 10, 44), (608, 10, 8), (609, 10, 240), (610, 10, 6), (611, 10, 12), (612, 10, 48), (613, 10, 4), (614, 10, 6), (615, 10, 6), (616, 10, 6), (617, 10, 6), (618, 10, 6), (619, 10, 18), (620, 10, 4), (621, 10, 4), (622, 11, 160), (623, 10, 4), (624, 10, 4), (625, 10, 4), (626, 10, 30), (627, 10, 110), (628, 10, 5)]
/-- what the references hold: they never change behind the constructors -/
def om_rt : List ((Nat × Nat) × Nat) := [((1, 1), 100), ((1, 2), 200), ((1, 3), 300), ((1, 4), 500), ((1, 0), 510), ((1, 5), 520), ((1, 6), 530), ((1, 7), 550), ((100, 4), 101), ((100, 5), 102), ((100, 6), 103), ((100, 7), 104), ((100, 8), 105), ((100, 9), 106), ((100, 10), 1000), ((103, 0), 110), ((103, 1), 111), ((103, 2), 112), ((103, 3), 113), ((103, 4), 114), ((103, 5), 115), ((200, 4), 201), ((200, 5), 202), ((200, 6), 203), ((200, 7), 204), ((200, 8), 205), ((200, 9), 206), ((200, 10), 1010), ((203, 0), 210), ((203, 1), 211), ((203, 2), 212), ((203, 3), 213), ((203, 4), 214), ((203, 5), 215), ((300, 4), 301), ((300, 5), 302), ((300, 6), 303), ((300, 7), 304), ((300, 8), 305), ((300, 9), 306), ((300, 10), 1020), ((303, 0), 310), ((303, 1), 311), ((303, 2), 312), ((303, 3), 313), ((303, 4), 314), ((303, 5), 315), ((1000, 0), 1001), ((1000, 1), 1002), ((1000, 2), 1003), ((1000, 3), 1004), ((1010, 0), 1011), ((1010, 1), 1012), ((1010, 2), 1013), ((1010, 3), 1014), ((1020, 0), 1021), ((1020, 1), 1022), ((1020, 2), 1023), ((1020, 3), 1024), ((1030, 0), 1031), ((1030, 1), 1032), ((1030, 2), 1033), ((1030, 3), 1034), ((1040, 0), 1041), ((1040, 1), 1042), ((1040, 2), 1043), ((1040, 3), 1044), ((1050, 0), 1051), ((1050, 1), 1052), ((1050, 2), 1053), ((1050, 3), 1054), ((1060, 0), 1061), ((1060, 1), 1062), ((1060, 2), 1063), ((1060, 3), 1064), ((1070, 0), 1071), ((1070, 1), 1072), ((1070, 2), 1073), ((1070, 3), 1074), ((1080, 0), 1081), ((1080, 1), 1082), ((1080, 2), 1083), ((1080, 3), 1084), ((1090, 0), 1091), ((1090, 1), 1092), ((1090, 2), 1093), ((1090, 3), 1094), ((500, 0), 501), ((510, 0), 100), ((510, 1), 511), ((510, 2), 512), ((510, 3), 513), ((511, 0), 1030), ((511, 1), 1040), ((511, 2), 1050), ((511, 3), 1060), ((511, 4), 1070), ((511, 5), 1080), ((511, 6), 1090), ((520, 0), 521), ((533, 0), 534), ((533, 1), 535), ((533, 2), 536), ((533, 3), 537), ((530, 0), 531), ((530, 1), 532), ((530, 2), 533), ((530, 3), 538), ((530, 4), 539), ((530, 5), 540), ((600, 3), 601), ((600, 4), 602), ((600, 5), 603), ((600, 6), 604), ((600, 7), 605), ((600, 8), 606), ((600, 9), 607), ((600, 13), 608), ((600, 14), 609), ((600, 25), 610), ((600, 26), 611), ((600, 27), 612), ((600, 28), 613), ((600, 29), 614), ((600, 30), 615), ((600, 33), 616), ((600, 34), 617), ((600, 40), 618), ((600, 41), 619), ((600, 43), 620), ((600, 44), 621), ((600, 45), 622), ((600, 46), 623), ((600, 47), 624), ((600, 48), 625), ((600, 52), 626), ((600, 56), 627), ((600, 58), 628)]
def gk (a : Nat) : Nat := match om_obj.lookup a with
  | some q => q.1
  | none => 99
def gl (a : Nat) : Nat := match om_obj.lookup a with
  | some q => q.2
  | none => 0
def rf (a k : Nat) : Nat := match om_rt.lookup (a, k) with
  | some b => b
  | none => 0
def om_nf (k : Nat) : Nat := match om_cl[k]? with
  | some q => q.2.2
  | none => 0
def om_fv (r : Nat → Nat) (M : Mm) (a ci k : Nat) : Value := match om_ty ci k with
  | .int => .int (M.1 a k)
  | .boolean => .int (M.1 a k)
  | .long => .long (M.2 a k)
  | _ => .ref (r (rf a k))
def om_cell (r : Nat → Nat) (cA : Nat → ClassId) (M : Mm) (a k n : Nat) : va_E :=
  if k = 9 then .inl (cA 9, n, .inl (M.1 a)) else if k = 10 then .inl (cA 10, n, .inl (M.1 a)) else if k = 11 then .inl (cA 11, n, .inr (.inl (M.2 a))) else if 12 ≤ k then .inl (cA k, n, .inr (.inr (.inr (.inr (fun i => some (r (rf a i))))))) else .inr (k, (List.range (om_nf k)).map (om_fv r M a k))
def om_ws (r : Nat → Nat) (cA : Nat → ClassId) (M : Mm) : va_W := om_obj.map (fun q => (r q.1, om_cell r cA M q.1 q.2.1 q.2.2))
abbrev om_tys (cA : Nat → ClassId) : List (ClassId × FieldType) := [(cA 9, .byte), (cA 10, .int), (cA 11, .long), (cA 12, .object RX3), (cA 13, .object RX6), (cA 14, .array .long)]
def om_A (r : Nat → Nat) : Nat → Prop := fun q => ∃ x ∈ om_obj, q = r x.1
set_option maxRecDepth 100000 in
theorem om_nd : (om_obj.map (fun q => q.1)).Nodup := by decide +kernel
theorem om_lookup_mem {α β : Type} [BEq α] [LawfulBEq α] {l : List (α × β)} {a : α} {b : β} (h : l.lookup a = some b) : (a, b) ∈ l := by
  induction l with
  | nil => simp [List.lookup] at h
  | cons x l ih =>
    obtain ⟨x1, x2⟩ := x
    simp only [List.lookup] at h
    split at h
    next heq =>
      have e : a = x1 := by simpa using heq
      cases h
      rw [e]
      exact List.mem_cons_self
    next => exact List.mem_cons_of_mem _ (ih h)
theorem gk_at {a k : Nat} (h : gk a = k) (hk : k ≠ 99) : ∃ i : Nat, om_obj[i]? = some (a, k, gl a) := by
  unfold gk at h
  cases hl : om_obj.lookup a with
  | none => rw [hl] at h; exact absurd h.symm hk
  | some q =>
    rw [hl] at h
    have hm := om_lookup_mem hl
    have e : gl a = q.2 := by unfold gl; rw [hl]
    obtain ⟨i, hi⟩ := List.getElem?_of_mem hm
    refine ⟨i, ?_⟩
    rw [hi, e]
    have h1 : q.1 = k := h
    rw [← h1]
theorem ws_at {r : Nat → Nat} {cA : Nat → ClassId} {M : Mm} {i a k n : Nat} (h : om_obj[i]? = some (a, k, n)) : (om_ws r cA M)[i]? = some (r a, om_cell r cA M a k n) := by
  unfold om_ws
  rw [List.getElem?_map, h]
  rfl
theorem om_cell_congr {r : Nat → Nat} {cA : Nat → ClassId} {M M' : Mm} {a k n : Nat} (h1 : M'.1 a = M.1 a) (h2 : M'.2 a = M.2 a) : om_cell r cA M' a k n = om_cell r cA M a k n := by
  unfold om_cell
  rw [h1, h2]
  have e : om_fv r M' a k = om_fv r M a k := by
    funext j
    unfold om_fv
    rw [h1, h2]
  rw [e]
theorem ws_set {r : Nat → Nat} {cA : Nat → ClassId} {M M' : Mm} {i a k n : Nat} {c : va_E} (h : om_obj[i]? = some (a, k, n)) (hc : c = om_cell r cA M' a k n) (hM : ∀ b, b ≠ a → M'.1 b = M.1 b ∧ M'.2 b = M.2 b) : (om_ws r cA M).set i (r a, c) = om_ws r cA M' := by
  subst hc
  apply List.ext_getElem?
  intro j
  by_cases hj : j = i
  · subst hj
    have hlt : j < (om_ws r cA M).length := (List.getElem?_eq_some_iff.mp (ws_at (r := r) (cA := cA) (M := M) h)).1
    rw [List.getElem?_set_self hlt, ws_at h]
  · rw [List.getElem?_set_ne (Ne.symm hj)]
    unfold om_ws
    rw [List.getElem?_map, List.getElem?_map]
    cases hx : om_obj[j]? with
    | none => rfl
    | some x =>
      have hne : x.1 ≠ a := by
        intro e
        have n1 : (om_obj.map (fun q => q.1))[j]? = some x.1 := by rw [List.getElem?_map, hx]; rfl
        have n2 : (om_obj.map (fun q => q.1))[i]? = some a := by rw [List.getElem?_map, h]; rfl
        rw [e] at n1
        exact hj (by
          have l1 := (List.getElem?_eq_some_iff.mp n1).1
          exact (List.getElem?_inj l1 om_nd).mp (n1.trans n2.symm))
      show some (r x.1, om_cell r cA M x.1 x.2.1 x.2.2) = some (r x.1, om_cell r cA M' x.1 x.2.1 x.2.2)
      rw [om_cell_congr (hM x.1 hne).1 (hM x.1 hne).2]
theorem om_D_any {r : Nat → Nat} {cA : Nat → ClassId} {M M' : Mm} {A : Nat → Prop} (h : va_D A (om_ws r cA M)) : va_D A (om_ws r cA M') := by
  have key : ∀ (k : Nat) (q : Nat × va_E), (om_ws r cA M')[k]? = some q → ∃ q0, (om_ws r cA M)[k]? = some q0 ∧ q0.1 = q.1 := by
    intro k q hk
    unfold om_ws at hk ⊢
    rw [List.getElem?_map] at hk ⊢
    cases hx : om_obj[k]? with
    | none => rw [hx] at hk; cases hk
    | some x => rw [hx] at hk; cases hk; exact ⟨_, rfl, rfl⟩
  refine ⟨fun i j x y hi hj hxy => ?_, fun k q hk => ?_⟩
  · obtain ⟨x0, h1, h2⟩ := key i x hi
    obtain ⟨y0, h3, h4⟩ := key j y hj
    exact h.1 i j x0 y0 h1 h3 (h2.trans (hxy.trans h4.symm))
  · obtain ⟨q0, h1, h2⟩ := key k q hk
    rw [← h2]
    exact h.2 k q0 h1
theorem om_A_in {r : Nat → Nat} {cA : Nat → ClassId} {M : Mm} {A : Nat → Prop} (h : va_D A (om_ws r cA M)) : ∀ q, om_A r q → A q := by
  intro q hq
  obtain ⟨x, hx, rfl⟩ := hq
  obtain ⟨i, hi⟩ := List.getElem?_of_mem hx
  exact h.2 i _ (ws_at (r := r) (cA := cA) (M := M) (i := i) (a := x.1) (k := x.2.1) (n := x.2.2) hi)
theorem om_D_self {r : Nat → Nat} {cA : Nat → ClassId} {M : Mm} {A : Nat → Prop} (h : va_D A (om_ws r cA M)) : va_D (om_A r) (om_ws r cA M) := by
  refine ⟨h.1, fun k q hk => ?_⟩
  unfold om_ws at hk
  rw [List.getElem?_map] at hk
  cases hx : om_obj[k]? with
  | none => rw [hx] at hk; cases hk
  | some x => rw [hx] at hk; cases hk; exact ⟨x, List.mem_of_getElem? hx, rfl⟩
/-- one int, one long is written -/
def wi (M : Mm) (a k : Nat) (v : Int32) : Mm := (fun b j => if b = a ∧ j = k then v else M.1 b j, M.2)
def wl (M : Mm) (a k : Nat) (v : Int64) : Mm := (M.1, fun b j => if b = a ∧ j = k then v else M.2 b j)
theorem wi_row (M : Mm) (a k : Nat) (v : Int32) : (wi M a k v).1 a = upd (M.1 a) k v := by
  funext j
  simp [wi, upd]
theorem wl_row (M : Mm) (a k : Nat) (v : Int64) : (wl M a k v).2 a = vp_updL (M.2 a) k v := by
  funext j
  simp [wl, vp_updL]
theorem wi_ne (M : Mm) (a k : Nat) (v : Int32) : ∀ b, b ≠ a → (wi M a k v).1 b = M.1 b ∧ (wi M a k v).2 b = M.2 b := by
  intro b hb
  refine ⟨?_, rfl⟩
  funext j
  simp [wi, hb]
theorem wl_ne (M : Mm) (a k : Nat) (v : Int64) : ∀ b, b ≠ a → (wl M a k v).1 b = M.1 b ∧ (wl M a k v).2 b = M.2 b := by
  intro b hb
  refine ⟨rfl, ?_⟩
  funext j
  simp [wl, hb]
/-- a row is copied -/
def cpi (M : Mm) (a b : Nat) (sp dp n : Nat) : Mm := (fun c j => if c = b then va_cpy (M.1 a) (M.1 b) sp dp n j else M.1 c j, M.2)
theorem cpi_row (M : Mm) (a b sp dp n : Nat) : (cpi M a b sp dp n).1 b = va_cpy (M.1 a) (M.1 b) sp dp n := by
  funext j
  simp [cpi]
theorem cpi_ne (M : Mm) (a b sp dp n : Nat) : ∀ c, c ≠ b → (cpi M a b sp dp n).1 c = M.1 c ∧ (cpi M a b sp dp n).2 c = M.2 c := by
  intro c hc
  refine ⟨?_, rfl⟩
  funext j
  simp [cpi, hc]
/-- the locals -/
def lvA (r : Nat → Nat) (L : Lc) (ls : Array Slot) (nL : Nat) : Prop := ls.size = nL ∧ lv_wf ls ∧ ∀ (i : Nat) (v : Value), L[i]? = some (some v) → ls[i]? = some (.val (om_cv r v))
def ldL : Lc → Nat → Option Value
  | [], _ => none
  | x :: _, 0 => x
  | _ :: l, n + 1 => ldL l n
theorem ldL_at : ∀ (L : Lc) (i : Nat) (v : Value), ldL L i = some v → L[i]? = some (some v)
  | [], i, v, h => by simp [ldL] at h
  | x :: l, 0, v, h => by simp [ldL] at h; simp [h]
  | x :: l, n + 1, v, h => by simp [ldL] at h; simp [ldL_at l n v h]
def clL : Option Value → Option Value
  | some (.long _) => none
  | some (.double _) => none
  | x => x
def hdL : Lc → Lc
  | [] => []
  | _ :: l => none :: l
def stL : Lc → Nat → Value → Lc
  | [], _, _ => []
  | _ :: l, 0, .long v => some (.long v) :: hdL l
  | _ :: l, 0, .double v => some (.double v) :: hdL l
  | _ :: l, 0, v => some v :: l
  | x :: l, 1, v => clL x :: stL l 0 v
  | x :: l, n + 2, v => x :: stL l (n + 1) v
theorem clL_some {x : Option Value} {w : Value} (h : clL x = some w) : x = some w ∧ w.category = 1 := by
  cases x with
  | none => cases h
  | some y => cases y <;> first | (cases h; exact ⟨rfl, rfl⟩) | cases h
theorem hdL_at : ∀ (l : Lc) (j : Nat) (w : Value), (hdL l)[j]? = some (some w) → l[j]? = some (some w) ∧ j ≠ 0
  | [], j, w, h => by simp [hdL] at h
  | x :: l, 0, w, h => by simp [hdL] at h
  | x :: l, j + 1, w, h => by simp [hdL] at h; exact ⟨by simpa using h, by omega⟩
theorem stL_at : ∀ (L : Lc) (i : Nat) (v : Value) (j : Nat) (w : Value), (stL L i v)[j]? = some (some w) → (j = i ∧ w = v) ∨ (L[j]? = some (some w) ∧ j ≠ i ∧ (j + 1 = i → w.category = 1) ∧ (v.category = 2 → j ≠ i + 1)) := by
  intro L
  induction L with
  | nil => intro i v j w h; simp [stL] at h
  | cons x l ih =>
    intro i v j w h
    match i with
    | 0 =>
      cases j with
      | zero =>
        left
        cases v <;> (simp [stL] at h; exact ⟨rfl, h.symm⟩)
      | succ j =>
        right
        cases v with
        | long z =>
          simp only [stL, List.getElem?_cons_succ] at h
          obtain ⟨h1, h2⟩ := hdL_at l j w h
          exact ⟨by simpa using h1, by omega, by omega, fun _ => by omega⟩
        | double z =>
          simp only [stL, List.getElem?_cons_succ] at h
          obtain ⟨h1, h2⟩ := hdL_at l j w h
          exact ⟨by simpa using h1, by omega, by omega, fun _ => by omega⟩
        | _ =>
          simp only [stL, List.getElem?_cons_succ] at h
          exact ⟨by simpa using h, by omega, by omega, fun e => by simp [Value.category] at e⟩
    | 1 =>
      cases j with
      | zero =>
        simp only [stL, List.getElem?_cons_zero, Option.some.injEq] at h
        obtain ⟨h1, h2⟩ := clL_some h
        right
        exact ⟨by simp [h1], by omega, fun _ => h2, fun _ => by omega⟩
      | succ j =>
        simp only [stL, List.getElem?_cons_succ] at h
        rcases ih 0 v j w h with ⟨h1, h2⟩ | ⟨h1, h2, h3, h4⟩
        · exact Or.inl ⟨by omega, h2⟩
        · exact Or.inr ⟨by simpa using h1, by omega, fun e => by omega, fun e => by have := h4 e; omega⟩
    | n + 2 =>
      cases j with
      | zero =>
        simp only [stL, List.getElem?_cons_zero, Option.some.injEq] at h
        right
        exact ⟨by simp [h], by omega, fun e => by omega, fun _ => by omega⟩
      | succ j =>
        simp only [stL, List.getElem?_cons_succ] at h
        rcases ih (n + 1) v j w h with ⟨h1, h2⟩ | ⟨h1, h2, h3, h4⟩
        · exact Or.inl ⟨by omega, h2⟩
        · exact Or.inr ⟨by simpa using h1, by omega, fun e => h3 (by omega), fun e => by have := h4 e; omega⟩
/-- the locals as the kit's list -/
def lvl (r : Nat → Nat) : Nat → Lc → List (Nat × Value)
  | _, [] => []
  | k, some v :: l => (k, om_cv r v) :: lvl r (k + 1) l
  | k, none :: l => lvl r (k + 1) l
theorem lvl_mem (r : Nat → Nat) : ∀ (L : Lc) (k : Nat) (q : Nat × Value), q ∈ lvl r k L → ∃ j v, q = (k + j, om_cv r v) ∧ L[j]? = some (some v)
  | [], k, q, h => by simp [lvl] at h
  | some v :: l, k, q, h => by
    simp only [lvl, List.mem_cons] at h
    rcases h with rfl | h
    · exact ⟨0, v, by simp, by simp⟩
    · obtain ⟨j, w, e, hw⟩ := lvl_mem r l (k + 1) q h
      exact ⟨j + 1, w, by rw [e]; simp; omega, by simpa using hw⟩
  | none :: l, k, q, h => by
    simp only [lvl] at h
    obtain ⟨j, w, e, hw⟩ := lvl_mem r l (k + 1) q h
    exact ⟨j + 1, w, by rw [e]; simp; omega, by simpa using hw⟩
theorem lvl_in (r : Nat → Nat) : ∀ (L : Lc) (k j : Nat) (v : Value), L[j]? = some (some v) → (k + j, om_cv r v) ∈ lvl r k L
  | [], k, j, v, h => by simp at h
  | x :: l, k, 0, v, h => by
    simp at h
    subst h
    simp [lvl]
  | x :: l, k, j + 1, v, h => by
    have h2 := lvl_in r l (k + 1) j v (by simpa using h)
    rw [show k + (j + 1) = k + 1 + j by omega]
    cases x with
    | none => exact h2
    | some w => exact List.mem_cons_of_mem _ h2
theorem lvA_has {r : Nat → Nat} {L : Lc} {ls : Array Slot} {nL : Nat} (h : lvA r L ls nL) : lv_has ls nL (lvl r 0 L) := by
  refine ⟨h.1, h.2.1, fun q hq => ?_⟩
  obtain ⟨j, v, rfl, hv⟩ := lvl_mem r L 0 q hq
  simpa using h.2.2 j v hv
theorem lvA_st1 {r : Nat → Nat} {L : Lc} {ls' : Array Slot} {nL i : Nat} {v : Value} (h : lv_has ls' nL ((i, om_cv r v) :: (lvl r 0 L).filter (fun q => !(q.1 == i) && !(q.1 + 1 == i && q.2.category == 2)))) (hv : v.category = 1) : lvA r (stL L i v) ls' nL := by
  refine ⟨h.1, h.2.1, fun j w hw => ?_⟩
  rcases stL_at L i v j w hw with ⟨rfl, rfl⟩ | ⟨h1, h2, h3, h4⟩
  · exact h.2.2 (j, om_cv r w) List.mem_cons_self
  · refine h.2.2 (j, om_cv r w) (List.mem_cons_of_mem _ (List.mem_filter.mpr ⟨by simpa using lvl_in r L 0 j w h1, ?_⟩))
    by_cases e : j + 1 = i
    · have := h3 e
      simp [h2, om_cat, this]
    · simp [h2, e]
theorem lvA_st2 {r : Nat → Nat} {L : Lc} {ls' : Array Slot} {nL i : Nat} {v : Value} (h : lv_has ls' nL ((i, om_cv r v) :: (lvl r 0 L).filter (fun q => !(q.1 == i) && (!(q.1 == i + 1) && !(q.1 + 1 == i && q.2.category == 2))))) (hv : v.category = 2) : lvA r (stL L i v) ls' nL := by
  refine ⟨h.1, h.2.1, fun j w hw => ?_⟩
  rcases stL_at L i v j w hw with ⟨rfl, rfl⟩ | ⟨h1, h2, h3, h4⟩
  · exact h.2.2 (j, om_cv r w) List.mem_cons_self
  · refine h.2.2 (j, om_cv r w) (List.mem_cons_of_mem _ (List.mem_filter.mpr ⟨by simpa using lvl_in r L 0 j w h1, ?_⟩))
    have h5 := h4 hv
    by_cases e : j + 1 = i
    · have := h3 e
      simp [h2, h5, om_cat, this]
    · simp [h2, h5, e]
/-- the locals at a method's entry -/
def agL : List Value → Lc
  | [] => []
  | v :: vs => if v.category = 2 then some v :: none :: agL vs else some v :: agL vs
theorem agL_at (r : Nat → Nat) : ∀ (vs : List Value) (k j : Nat) (v : Value), (agL vs)[j]? = some (some v) → (k + j, om_cv r v) ∈ lv_args k (vs.map (om_cv r))
  | [], k, j, v, h => by simp [agL] at h
  | x :: vs, k, j, v, h => by
    simp only [agL] at h
    simp only [List.map_cons, lv_args, om_cat]
    by_cases hc : x.category = 2
    · rw [if_pos hc] at h ⊢
      match j, h with
      | 0, h => simp at h; subst h; exact List.mem_cons_self
      | 1, h => simp at h
      | j + 2, h =>
        have := agL_at r vs (k + 2) j v (by simpa using h)
        rw [show k + (j + 2) = k + 2 + j by omega]
        exact List.mem_cons_of_mem _ this
    · rw [if_neg hc] at h ⊢
      match j, h with
      | 0, h => simp at h; subst h; exact List.mem_cons_self
      | j + 1, h =>
        have := agL_at r vs (k + 1) j v (by simpa using h)
        rw [show k + (j + 1) = k + 1 + j by omega]
        exact List.mem_cons_of_mem _ this
theorem agL_len (r : Nat → Nat) : ∀ vs : List Value, (lg_sl (vs.map (om_cv r))).length = (agL vs).length
  | [] => rfl
  | x :: vs => by
    have ih := agL_len r vs
    simp only [lg_sl, List.map_cons, List.flatMap_cons, List.length_append, om_cat] at ih ⊢
    simp only [agL]
    by_cases hc : x.category = 2
    · rw [if_pos hc, if_pos hc]
      simp [ih]
      omega
    · rw [if_neg hc, if_neg hc]
      simp [ih]
      omega
theorem lvA_entry (r : Nat → Nat) (vs : List Value) {n : Nat} {L : Lc} (hn : (agL vs).length ≤ n) (hL : L = agL vs ++ List.replicate (n - (agL vs).length) none) : lvA r L ((lg_sl (vs.map (om_cv r)) ++ List.replicate (n - (lg_sl (vs.map (om_cv r))).length) Slot.unset).toArray) n := by
  have h := lv_entry (vs.map (om_cv r)) (n := n) (by rw [agL_len]; exact hn)
  refine ⟨h.1, h.2.1, fun i v hv => ?_⟩
  subst hL
  have h1 : (agL vs)[i]? = some (some v) := by
    by_cases hl : i < (agL vs).length
    · rwa [List.getElem?_append_left hl] at hv
    · rw [List.getElem?_append_right (by omega)] at hv
      have := List.eq_of_mem_replicate (List.mem_of_getElem? hv)
      cases this
  have := agL_at r vs 0 i v h1
  simpa using h.2.2 _ this
