/-! the constructors: cells in the order of their making, writes in their order -/
def om_al : List (Nat × Nat × Nat) := [(1, 7, 0), (510, 2, 0), (100, 5, 0), (101, 10, 3), (102, 10, 6), (103, 13, 6), (104, 10, 4), (105, 10, 4), (106, 10, 4), (1000, 3, 0), (1001, 10, 3), (1002, 10, 6), (1003, 10, 6), (1004, 10, 6), (110, 6, 0), (111, 6, 0), (112, 6, 0), (113, 6, 0), (114, 6, 0), (115, 6, 0), (511, 12, 7), (512, 10, 6), (513, 10, 6), (1030, 3, 0), (1031, 10, 3), (1032, 10, 6), (1033, 10, 6), (1034, 10, 6), (1040, 3, 0), (1041, 10, 3), (1042, 10, 6), (1043, 10, 6), (1044, 10, 6), (1050, 3, 0), (1051, 10, 3), (1052, 10, 6), (1053, 10, 6), (1054, 10, 6), (1060, 3, 0), (1061, 10, 3), (1062, 10, 6), (1063, 10, 6), (1064, 10, 6), (1070, 3, 0), (1071, 10, 3), (1072, 10, 6), (1073, 10, 6), (1074, 10, 6), (1080, 3, 0), (1081, 10, 3), (1082, 10, 6), (1083, 10, 6), (1084, 10, 6), (1090, 3, 0), (1091, 10, 3), (1092, 10, 6), (1093, 10, 6), (1094, 10, 6), (200, 5, 0), (201, 10, 3), (202, 10, 6), (203, 13, 6), (204, 10, 4), (205, 10, 4), (206, 10, 4), (1010, 3, 0), (1011, 10, 3), (1012, 10, 6), (1013, 10, 6), (1014, 10, 6), (210, 6, 0), (211, 6, 0), (212, 6, 0), (213, 6, 0), (214, 6, 0), (215, 6, 0), (300, 5, 0), (301, 10, 3), (302, 10, 6), (303, 13, 6), (304, 10, 4), (305, 10, 4), (306, 10, 4), (1020, 3, 0), (1021, 10, 3), (1022, 10, 6), (1023, 10, 6), (1024, 10, 6), (310, 6, 0), (311, 6, 0), (312, 6, 0), (313, 6, 0), (314, 6, 0), (315, 6, 0), (500, 4, 0), (501, 9, 240), (520, 0, 0), (521, 10, 30), (530, 1, 0), (531, 10, 4), (532, 10, 4), (533, 14, 4), (534, 11, 40), (535, 11, 40), (536, 11, 40), (537, 11, 40), (538, 10, 4), (539, 10, 4), (540, 10, 4), (550, 10, 18), (600, 8, 0), (601, 10, 3), (602, 10, 6), (603, 10, 48), (604, 10, 4), (605, 10, 4), (606, 10, 4), (607, 10, 44), (608, 10, 8), (609, 10, 240), (610, 10, 6), (611, 10, 12), (612, 10, 48), (613, 10, 4), (614, 10, 6), (615, 10, 6), (616, 10, 6), (617, 10, 6), (618, 10, 6), (619, 10, 18), (620, 10, 4), (621, 10, 4), (622, 11, 160), (623, 10, 4), (624, 10, 4), (625, 10, 4), (626, 10, 30), (627, 10, 110), (628, 10, 5)]
def om_wr : List (Nat × Nat × Value) := [(100, 0, .int 0), (100, 1, .int 0), (100, 2, .int 0), (100, 3, .int 0), (100, 4, .ref 101), (100, 5, .ref 102), (100, 6, .ref 103), (104, 0, .int 0), (104, 1, .int 1), (104, 2, .int 5), (104, 3, .int 3), (100, 7, .ref 104), (100, 8, .ref 105), (100, 9, .ref 106), (1000, 0, .ref 1001), (1000, 1, .ref 1002), (1000, 2, .ref 1003), (1000, 3, .ref 1004), (1000, 4, .int 0), (1000, 5, .int 0), (1000, 6, .int 0), (100, 10, .ref 1000), (110, 0, .int 0), (110, 1, .int 0), (110, 2, .int 0), (110, 3, .int 0), (110, 4, .int 0), (110, 5, .int 0), (110, 6, .int (-1)), (110, 7, .int 0), (103, 0, .ref 110), (111, 0, .int 0), (111, 1, .int 0), (111, 2, .int 0), (111, 3, .int 0), (111, 4, .int 0), (111, 5, .int 0), (111, 6, .int (-1)), (111, 7, .int 0), (103, 1, .ref 111), (112, 0, .int 0), (112, 1, .int 0), (112, 2, .int 0), (112, 3, .int 0), (112, 4, .int 0), (112, 5, .int 0), (112, 6, .int (-1)), (112, 7, .int 0), (103, 2, .ref 112), (113, 0, .int 0), (113, 1, .int 0), (113, 2, .int 0), (113, 3, .int 0), (113, 4, .int 0), (113, 5, .int 0), (113, 6, .int (-1)), (113, 7, .int 0), (103, 3, .ref 113), (114, 0, .int 0), (114, 1, .int 0), (114, 2, .int 0), (114, 3, .int 0), (114, 4, .int 0), (114, 5, .int 0), (114, 6, .int (-1)), (114, 7, .int 0), (103, 4, .ref 114), (115, 0, .int 0), (115, 1, .int 0), (115, 2, .int 0), (115, 3, .int 0), (115, 4, .int 0), (115, 5, .int 0), (115, 6, .int (-1)), (115, 7, .int 0), (103, 5, .ref 115), (510, 0, .ref 100), (510, 1, .ref 511), (510, 2, .ref 512), (510, 3, .ref 513), (510, 4, .int 0), (510, 5, .int 0), (510, 6, .int 0), (510, 7, .int 0), (510, 8, .int 0), (510, 9, .int 0), (510, 10, .long 0), (510, 11, .long 1), (1030, 0, .ref 1031), (1030, 1, .ref 1032), (1030, 2, .ref 1033), (1030, 3, .ref 1034), (1030, 4, .int 0), (1030, 5, .int 0), (1030, 6, .int 0), (511, 0, .ref 1030), (1040, 0, .ref 1041), (1040, 1, .ref 1042), (1040, 2, .ref 1043), (1040, 3, .ref 1044), (1040, 4, .int 0), (1040, 5, .int 0), (1040, 6, .int 0), (511, 1, .ref 1040), (1050, 0, .ref 1051), (1050, 1, .ref 1052), (1050, 2, .ref 1053), (1050, 3, .ref 1054), (1050, 4, .int 0), (1050, 5, .int 0), (1050, 6, .int 0), (511, 2, .ref 1050), (1060, 0, .ref 1061), (1060, 1, .ref 1062), (1060, 2, .ref 1063), (1060, 3, .ref 1064), (1060, 4, .int 0), (1060, 5, .int 0), (1060, 6, .int 0), (511, 3, .ref 1060), (1070, 0, .ref 1071), (1070, 1, .ref 1072), (1070, 2, .ref 1073), (1070, 3, .ref 1074), (1070, 4, .int 0), (1070, 5, .int 0), (1070, 6, .int 0), (511, 4, .ref 1070), (1080, 0, .ref 1081), (1080, 1, .ref 1082), (1080, 2, .ref 1083), (1080, 3, .ref 1084), (1080, 4, .int 0), (1080, 5, .int 0), (1080, 6, .int 0), (511, 5, .ref 1080), (1090, 0, .ref 1091), (1090, 1, .ref 1092), (1090, 2, .ref 1093), (1090, 3, .ref 1094), (1090, 4, .int 0), (1090, 5, .int 0), (1090, 6, .int 0), (511, 6, .ref 1090), (1, 0, .ref 510), (1, 1, .ref 100), (200, 0, .int 0), (200, 1, .int 0), (200, 2, .int 0), (200, 3, .int 0), (200, 4, .ref 201), (200, 5, .ref 202), (200, 6, .ref 203), (204, 0, .int 0), (204, 1, .int 1), (204, 2, .int 5), (204, 3, .int 3), (200, 7, .ref 204), (200, 8, .ref 205), (200, 9, .ref 206), (1010, 0, .ref 1011), (1010, 1, .ref 1012), (1010, 2, .ref 1013), (1010, 3, .ref 1014), (1010, 4, .int 0), (1010, 5, .int 0), (1010, 6, .int 0), (200, 10, .ref 1010), (210, 0, .int 0), (210, 1, .int 0), (210, 2, .int 0), (210, 3, .int 0), (210, 4, .int 0), (210, 5, .int 0), (210, 6, .int (-1)), (210, 7, .int 0), (203, 0, .ref 210), (211, 0, .int 0), (211, 1, .int 0), (211, 2, .int 0), (211, 3, .int 0), (211, 4, .int 0), (211, 5, .int 0), (211, 6, .int (-1)), (211, 7, .int 0), (203, 1, .ref 211), (212, 0, .int 0), (212, 1, .int 0), (212, 2, .int 0), (212, 3, .int 0), (212, 4, .int 0), (212, 5, .int 0), (212, 6, .int (-1)), (212, 7, .int 0), (203, 2, .ref 212), (213, 0, .int 0), (213, 1, .int 0), (213, 2, .int 0), (213, 3, .int 0), (213, 4, .int 0), (213, 5, .int 0), (213, 6, .int (-1)), (213, 7, .int 0), (203, 3, .ref 213), (214, 0, .int 0), (214, 1, .int 0), (214, 2, .int 0), (214, 3, .int 0), (214, 4, .int 0), (214, 5, .int 0), (214, 6, .int (-1)), (214, 7, .int 0), (203, 4, .ref 214), (215, 0, .int 0), (215, 1, .int 0), (215, 2, .int 0), (215, 3, .int 0), (215, 4, .int 0), (215, 5, .int 0), (215, 6, .int (-1)), (215, 7, .int 0), (203, 5, .ref 215), (1, 2, .ref 200), (300, 0, .int 0), (300, 1, .int 0), (300, 2, .int 0), (300, 3, .int 0), (300, 4, .ref 301), (300, 5, .ref 302), (300, 6, .ref 303), (304, 0, .int 0), (304, 1, .int 1), (304, 2, .int 5), (304, 3, .int 3), (300, 7, .ref 304), (300, 8, .ref 305), (300, 9, .ref 306), (1020, 0, .ref 1021), (1020, 1, .ref 1022), (1020, 2, .ref 1023), (1020, 3, .ref 1024), (1020, 4, .int 0), (1020, 5, .int 0), (1020, 6, .int 0), (300, 10, .ref 1020), (310, 0, .int 0), (310, 1, .int 0), (310, 2, .int 0), (310, 3, .int 0), (310, 4, .int 0), (310, 5, .int 0), (310, 6, .int (-1)), (310, 7, .int 0), (303, 0, .ref 310), (311, 0, .int 0), (311, 1, .int 0), (311, 2, .int 0), (311, 3, .int 0), (311, 4, .int 0), (311, 5, .int 0), (311, 6, .int (-1)), (311, 7, .int 0), (303, 1, .ref 311), (312, 0, .int 0), (312, 1, .int 0), (312, 2, .int 0), (312, 3, .int 0), (312, 4, .int 0), (312, 5, .int 0), (312, 6, .int (-1)), (312, 7, .int 0), (303, 2, .ref 312), (313, 0, .int 0), (313, 1, .int 0), (313, 2, .int 0), (313, 3, .int 0), (313, 4, .int 0), (313, 5, .int 0), (313, 6, .int (-1)), (313, 7, .int 0), (303, 3, .ref 313), (314, 0, .int 0), (314, 1, .int 0), (314, 2, .int 0), (314, 3, .int 0), (314, 4, .int 0), (314, 5, .int 0), (314, 6, .int (-1)), (314, 7, .int 0), (303, 4, .ref 314), (315, 0, .int 0), (315, 1, .int 0), (315, 2, .int 0), (315, 3, .int 0), (315, 4, .int 0), (315, 5, .int 0), (315, 6, .int (-1)), (315, 7, .int 0), (303, 5, .ref 315), (1, 3, .ref 300), (500, 0, .ref 501), (500, 1, .int 0), (500, 2, .int 0), (500, 3, .int 0), (500, 4, .int 0), (500, 5, .int (-1)), (1, 4, .ref 500), (520, 0, .ref 521), (520, 1, .int 0), (520, 2, .int 0), (520, 3, .int 0), (520, 4, .int 0), (520, 5, .int 0), (1, 5, .ref 520), (531, 0, .int (-1)), (531, 1, .int (-1)), (531, 2, .int (-1)), (531, 3, .int (-1)), (530, 0, .ref 531), (530, 1, .ref 532), (533, 0, .ref 534), (533, 1, .ref 535), (533, 2, .ref 536), (533, 3, .ref 537), (530, 2, .ref 533), (538, 0, .int 2), (538, 1, .int 2), (538, 2, .int 2), (538, 3, .int 2), (530, 3, .ref 538), (530, 4, .ref 539), (530, 5, .ref 540), (1, 6, .ref 530), (1, 7, .ref 550), (1, 8, .int 0), (1, 9, .int 0), (600, 3, .ref 601), (600, 4, .ref 602), (600, 5, .ref 603), (604, 0, .int 0), (604, 1, .int 1), (604, 2, .int 5), (604, 3, .int 3), (600, 6, .ref 604), (605, 0, .int 0), (605, 1, .int 0), (605, 2, .int 1), (605, 3, .int 1), (600, 7, .ref 605), (606, 0, .int 9), (606, 1, .int 8), (606, 2, .int 30), (606, 3, .int 20), (600, 8, .ref 606), (600, 9, .ref 607), (600, 13, .ref 608), (600, 14, .ref 609), (600, 25, .ref 610), (600, 26, .ref 611), (600, 27, .ref 612), (600, 28, .ref 613), (600, 29, .ref 614), (600, 30, .ref 615), (600, 33, .ref 616), (600, 34, .ref 617), (600, 40, .ref 618), (600, 41, .ref 619), (620, 0, .int (-1)), (620, 1, .int (-1)), (620, 2, .int (-1)), (620, 3, .int (-1)), (600, 43, .ref 620), (600, 44, .ref 621), (600, 45, .ref 622), (623, 0, .int (-1)), (623, 1, .int (-1)), (623, 2, .int (-1)), (623, 3, .int (-1)), (600, 46, .ref 623), (600, 47, .ref 624), (600, 48, .ref 625), (600, 52, .ref 626), (600, 56, .ref 627), (600, 58, .ref 628)]
def X0 (a k : Nat) : Value := if gk a < 9 then defaultValue (om_ty (gk a) k) else if gk a = 11 then .long 0 else if 12 ≤ gk a then .null else .int 0
def wX (X : Nat → Nat → Value) (a k : Nat) (v : Value) : Nat → Nat → Value := fun b j => if b = a ∧ j = k then v else X b j
def XS (t : Nat) : Nat → Nat → Value := (om_wr.take t).foldl (fun X w => wX X w.1 w.2.1 w.2.2) X0
theorem XS_s {t a k : Nat} {v : Value} (h : om_wr[t]? = some (a, k, v)) : XS (t + 1) = wX (XS t) a k v := by
  unfold XS
  rw [List.take_add_one, h, List.foldl_append]
  rfl
def vI : Value → Int32
  | .int v => v
  | _ => 0
def vJ : Value → Int64
  | .long v => v
  | _ => 0
def vR (r : Nat → Nat) : Value → Option Nat
  | .ref a => some (r a)
  | _ => none
def isr (a : Nat) : Value → Bool
  | .ref b => b == a
  | _ => false
def cX (r : Nat → Nat) (cA : Nat → ClassId) (X : Nat → Nat → Value) (a k n : Nat) : va_E :=
  if k < 9 then .inr (k, (List.range (om_nf k)).map (fun j => om_cv r (X a j)))
  else if k = 11 then .inl (cA 11, n, .inr (.inl (fun j => vJ (X a j))))
  else if 12 ≤ k then .inl (cA k, n, .inr (.inr (.inr (.inr (fun j => vR r (X a j))))))
  else .inl (cA k, n, .inl (fun j => vI (X a j)))
def cw (r : Nat → Nat) (cA : Nat → ClassId) (n t : Nat) : va_W := (om_al.take n).map (fun q => (r q.1, cX r cA (XS t) q.1 q.2.1 q.2.2))
def csz (q : Nat × Nat × Nat) : Nat := if q.2.1 < 9 then om_nf q.2.1 else q.2.2
def sl (n : Nat) : Nat := ((om_al.take n).map csz).sum
theorem sl_s {n : Nat} {q : Nat × Nat × Nat} (h : om_al[n]? = some q) : sl (n + 1) = sl n + csz q := by
  unfold sl
  rw [List.take_add_one, h, List.map_append, List.sum_append]
  simp
theorem sl_le (n : Nat) : ∀ k, sl n ≤ sl (n + k)
  | 0 => Nat.le_refl _
  | k + 1 => by
    have ih := sl_le n k
    cases h : om_al[n + k]? with
    | none =>
      have : sl (n + (k + 1)) = sl (n + k) := by
        unfold sl
        rw [show n + (k + 1) = n + k + 1 by omega, List.take_add_one, h]
        simp
      omega
    | some q =>
      have := sl_s h
      rw [show n + (k + 1) = n + k + 1 by omega]
      omega
theorem sl_mono {a b : Nat} (h : a ≤ b) : sl a ≤ sl b := by
  have := sl_le a (b - a)
  rw [show a + (b - a) = b by omega] at this
  exact this
set_option maxRecDepth 100000 in
theorem al_nd : (om_al.map (fun q => q.1)).Nodup := by decide +kernel
theorem al_inj {i j : Nat} {p q : Nat × Nat × Nat} (h1 : om_al[i]? = some p) (h2 : om_al[j]? = some q) (h : p.1 = q.1) : i = j := by
  have e1 : (om_al.map (fun q => q.1))[i]? = some p.1 := by rw [List.getElem?_map, h1]; rfl
  have e2 : (om_al.map (fun q => q.1))[j]? = some p.1 := by rw [List.getElem?_map, h2, h]; rfl
  obtain ⟨l1, g1⟩ := List.getElem?_eq_some_iff.mp e1
  obtain ⟨l2, g2⟩ := List.getElem?_eq_some_iff.mp e2
  exact (List.getElem_inj al_nd).mp (g1.trans g2.symm)
theorem cw_at {r : Nat → Nat} {cA : Nat → ClassId} {n t i a k m : Nat} (h : om_al[i]? = some (a, k, m)) (hi : i < n) : (cw r cA n t)[i]? = some (r a, cX r cA (XS t) a k m) := by
  unfold cw
  rw [List.getElem?_map, List.getElem?_take_of_lt hi, h]
  rfl
theorem cX_o {r : Nat → Nat} {cA : Nat → ClassId} {X : Nat → Nat → Value} {a j b k m : Nat} {v : Value} (h : b ≠ a) : cX r cA (wX X a j v) b k m = cX r cA X b k m := by
  have e : (wX X a j v) b = X b := by
    funext i
    show (if b = a ∧ i = j then v else X b i) = X b i
    rw [if_neg (fun u => h u.1)]
  unfold cX
  rw [e]
theorem cw_set {r : Nat → Nat} {cA : Nat → ClassId} {n t i a k m j : Nat} {v : Value} (h : om_al[i]? = some (a, k, m)) (hi : i < n) (hw : om_wr[t]? = some (a, j, v)) : (cw r cA n t).set i (r a, cX r cA (XS (t + 1)) a k m) = cw r cA n (t + 1) := by
  apply List.ext_getElem?
  intro i'
  by_cases q : i' = i
  · subst q
    rw [List.getElem?_set_self (List.getElem?_eq_some_iff.mp (cw_at (r := r) (cA := cA) (t := t) h hi)).1, cw_at h hi]
  · rw [List.getElem?_set_ne (Ne.symm q)]
    by_cases hn : i' < n
    · cases h2 : om_al[i']? with
      | none =>
        unfold cw
        rw [List.getElem?_map, List.getElem?_map, List.getElem?_take_of_lt hn, h2]
        rfl
      | some p =>
        obtain ⟨b, k2, m2⟩ := p
        rw [cw_at h2 hn, cw_at h2 hn, XS_s hw, cX_o (fun e => q (al_inj h2 h e))]
    · unfold cw
      rw [List.getElem?_map, List.getElem?_map, List.getElem?_take_eq_none (by omega)]
      rfl
/-- addresses that are made from n to n' -/
def ag (n n' : Nat) (r r' : Nat → Nat) : Prop := ∀ b, (∀ (i : Nat) (q : Nat × Nat × Nat), n ≤ i → i < n' → om_al[i]? = some q → b ≠ q.1) → r' b = r b
theorem ag.rf {n n' : Nat} {r : Nat → Nat} : ag n n' r r := fun _ _ => rfl
theorem ag.tr {n0 n n' : Nat} {r0 r r' : Nat → Nat} (h1 : ag n0 n r0 r) (h2 : ag n n' r r') (a : n0 ≤ n) (b : n ≤ n') : ag n0 n' r0 r' := fun x hx => (h2 x (fun i q u v w => hx i q (by omega) v w)).trans (h1 x (fun i q u v w => hx i q u (by omega) w))
def ok1 (n n' : Nat) (v : Value) : Bool := ((om_al.take n').drop n).all (fun q => !isr q.1 v)
def okL (n n' : Nat) (L : Lc) : Bool := L.all (fun o => match o with | some v => ok1 n n' v | none => true)
def okS (n n' : Nat) (st : List Value) : Bool := st.all (ok1 n n')
theorem ok1_cv {n n' : Nat} {r r' : Nat → Nat} {v : Value} (h : ok1 n n' v = true) (g : ag n n' r r') : om_cv r' v = om_cv r v := by
  cases v with
  | ref b =>
    show Value.ref (r' b) = Value.ref (r b)
    rw [g b]
    intro i q u v w e
    have hm : q ∈ (om_al.take n').drop n := by
      refine List.mem_of_getElem? (i := i - n) ?_
      rw [List.getElem?_drop, show n + (i - n) = i by omega, List.getElem?_take_of_lt v]
      exact w
    have := List.all_eq_true.mp h q hm
    rw [e] at this
    simp [isr] at this
  | _ => rfl
theorem okS_map {n n' : Nat} {r r' : Nat → Nat} {st : List Value} (h : okS n n' st = true) (g : ag n n' r r') : st.map (om_cv r') = st.map (om_cv r) := List.map_congr_left (fun v hv => ok1_cv (List.all_eq_true.mp h v hv) g)
theorem okL_lv {n n' : Nat} {r r' : Nat → Nat} {L : Lc} {ls : Array Slot} {mL : Nat} (h : okL n n' L = true) (g : ag n n' r r') (hl : lvA r L ls mL) : lvA r' L ls mL := by
  refine ⟨hl.1, hl.2.1, fun i v hv => ?_⟩
  rw [hl.2.2 i v hv, ok1_cv (r := r) (r' := r') _ g]
  have := List.all_eq_true.mp h (some v) (List.mem_of_getElem? hv)
  exact this
/-- the writes so far don't touch these, nor lay them anywhere -/
def okX (n n' t : Nat) : Bool := (om_wr.take t).all (fun w => ok1 n n' w.2.2)
theorem foldX {P : Value → Prop} : ∀ (l : List (Nat × Nat × Value)) (X : Nat → Nat → Value), (∀ w ∈ l, P w.2.2) → (∀ b j, P (X b j)) → ∀ b j, P (l.foldl (fun X w => wX X w.1 w.2.1 w.2.2) X b j)
  | [], _, _, h => h
  | w :: l, X, h1, h2 => foldX l _ (fun x hx => h1 x (List.mem_cons_of_mem _ hx)) (fun b j => by
    show P (if b = w.1 ∧ j = w.2.1 then w.2.2 else X b j)
    split
    · exact h1 w List.mem_cons_self
    · exact h2 b j)
theorem X0_nr (a k b : Nat) : isr b (X0 a k) = false := by
  unfold X0
  split
  · generalize om_ty (gk a) k = ty
    cases ty <;> rfl
  · split
    · rfl
    · split <;> rfl
theorem okX_1 {n n' t : Nat} (h : okX n n' t = true) (b j : Nat) : ok1 n n' (XS t b j) = true := by
  refine foldX (P := fun v => ok1 n n' v = true) (om_wr.take t) X0 (fun w hw => List.all_eq_true.mp h w hw) (fun b j => ?_) b j
  refine List.all_eq_true.mpr (fun q _ => ?_)
  rw [X0_nr]
  rfl
def unt (t a : Nat) : Bool := (om_wr.take t).all (fun w => !(w.1 == a))
theorem unt_X : ∀ (l : List (Nat × Nat × Value)) (X : Nat → Nat → Value) (a : Nat), (l.all (fun w => !(w.1 == a))) = true → ∀ j, l.foldl (fun X w => wX X w.1 w.2.1 w.2.2) X a j = X a j
  | [], _, _, _, _ => rfl
  | w :: l, X, a, h, j => by
    rw [List.all_cons, Bool.and_eq_true] at h
    show l.foldl (fun X w => wX X w.1 w.2.1 w.2.2) (wX X w.1 w.2.1 w.2.2) a j = X a j
    rw [unt_X l _ a h.2 j]
    show (if a = w.1 ∧ j = w.2.1 then w.2.2 else X a j) = X a j
    rw [if_neg]
    rintro ⟨e, -⟩
    have := h.1
    rw [e] at this
    simp at this
theorem vR_ok {n n' : Nat} {r r' : Nat → Nat} {v : Value} (h : ok1 n n' v = true) (g : ag n n' r r') : vR r' v = vR r v := by
  have e := ok1_cv h g
  cases v with
  | ref b =>
    have e' : Value.ref (r' b) = Value.ref (r b) := e
    injection e' with e''
    show some (r' b) = some (r b)
    rw [e'']
  | _ => rfl
theorem cX_r {n n' t : Nat} {r r' : Nat → Nat} {cA : Nat → ClassId} {a k m : Nat} (h : okX n n' t = true) (g : ag n n' r r') : cX r' cA (XS t) a k m = cX r cA (XS t) a k m := by
  have e1 : (fun j => om_cv r' (XS t a j)) = fun j => om_cv r (XS t a j) := funext fun j => ok1_cv (okX_1 h a j) g
  have e2 : (fun j => vR r' (XS t a j)) = fun j => vR r (XS t a j) := funext fun j => vR_ok (okX_1 h a j) g
  unfold cX
  rw [e1, e2]
theorem cw_r {n n' t : Nat} {r r' : Nat → Nat} {cA : Nat → ClassId} (h : okX n n' t = true) (g : ag n n' r r') : cw r' cA n t = cw r cA n t := by
  unfold cw
  refine List.map_congr_left (fun q hq => ?_)
  rw [cX_r h g, g q.1]
  intro i p u v w e
  obtain ⟨j, hj⟩ := List.getElem?_of_mem hq
  have hjn : j < n := by
    have := (List.getElem?_eq_some_iff.mp hj).1
    rw [List.length_take] at this
    omega
  rw [List.getElem?_take_of_lt hjn] at hj
  have := al_inj hj w e
  omega
/-- one cell more -/
def up1 (r : Nat → Nat) (a q : Nat) : Nat → Nat := fun x => if x = a then q else r x
theorem up1_ag {r : Nat → Nat} {n a k m q : Nat} (h : om_al[n]? = some (a, k, m)) : ag n (n + 1) r (up1 r a q) := fun b hb => by
  have : b ≠ a := hb n _ (Nat.le_refl _) (by omega) h
  exact if_neg this
theorem up1_s (r : Nat → Nat) (a q : Nat) : up1 r a q a = q := if_pos rfl
theorem cw_push {r : Nat → Nat} {cA : Nat → ClassId} {n t a k m q : Nat} (h : om_al[n]? = some (a, k, m)) (hx : okX n (n + 1) t = true) : cw (up1 r a q) cA (n + 1) t = cw r cA n t ++ [(q, cX (up1 r a q) cA (XS t) a k m)] := by
  have e : cw (up1 r a q) cA (n + 1) t = cw (up1 r a q) cA n t ++ [(up1 r a q a, cX (up1 r a q) cA (XS t) a k m)] := by
    unfold cw
    rw [List.take_add_one, h, List.map_append]
    rfl
  rw [e, up1_s, cw_r hx (up1_ag h)]
/-- what the start says of arrays and of nest mates -/
def va_OL (U : State) : Prop := (Cond.arrayOver (.array .long)).before #[] U = true
theorem va_OL.moved {u U : State} (hvm : u.vm.Alike U.vm) (h : va_OL u) : va_OL U := by
  obtain ⟨comp, c, k, h1, h2, h3, h4, h5⟩ := arrayOverA_spec h
  obtain ⟨k', hk', he⟩ := hvm.2.2 _ _ h3
  have hi : (U.vm.classes.findIdx? fun (x : Class) => match x.kind with | .array component _ => component == comp | _ => false) = some c := by
    rw [hvm.findIdx?_eq _ (fun _ => rfl)]
    exact h2
  have hkind : k'.kind = .array comp (.array .long) := by rw [he]; exact h4
  have f1 : U.vm.findClass (FieldType.array .long).toString = some comp := by rw [hvm.findClass]; exact h1
  have f2 : U.vm.findClass ("[" ++ (FieldType.array .long).toString) = some c := by rw [hvm.findClass]; exact h5
  unfold va_OL Cond.before Cond.holds
  simp only [Cond.value]
  rw [f1, Option.bind_some]
  refine (congrArg (fun o : Option Nat => (o.bind (fun c => (U.vm.classes[c]?).map fun (k : Class) => match k.kind with | .array _ ty => decide (ty = FieldType.array .long) && decide (U.vm.findClass ("[" ++ (FieldType.array .long).toString) = some c) | _ => false) == some true)) hi).trans ?_
  simp [hk', hkind, f2]
def NX (U : State) : Prop := (va_AO RX3 U ∧ va_AO RX6 U ∧ va_OL U) ∧ (va_Nw (.methodLinkNest RX5 48 yX3_init RX7) U ∧ va_Nw (.methodLinkNest RX5 53 yX6_init RX7) U ∧ va_Nw (.methodLinkNest RX7 32 yX4_init RX7) U ∧ va_Nw (.methodLinkNest RX2 58 yX3_init RX7) U ∧ va_Nw (.methodLinkNest RX7 39 yX0_init RX7) U ∧ va_Nw (.methodLinkNest RX7 46 yX1_init RX7) U)
theorem NX.warm {s U : State} (h : NX s) (hW : s.WarmedH U.vm) : NX U := by
  obtain ⟨⟨a1, a2, a3⟩, b1, b2, b3, b4, b5, b6⟩ := h
  exact ⟨⟨a1.moved hW.alike, a2.moved hW.alike, a3.moved hW.alike⟩, b1.warmM hW, b2.warmM hW, b3.warmM hW, b4.warmM hW, b5.warmM hW, b6.warmM hW⟩
theorem NX.same {s U : State} (h : NX s) (hv : U.vm = s.vm) : NX U := by
  obtain ⟨⟨a1, a2, a3⟩, b1, b2, b3, b4, b5, b6⟩ := h
  have ha : s.vm.Alike U.vm := by rw [hv]; exact Vm.Alike.refl _
  exact ⟨⟨a1.moved ha, a2.moved ha, a3.moved ha⟩, va_Nw.same rfl hv.symm b1, va_Nw.same rfl hv.symm b2, va_Nw.same rfl hv.symm b3, va_Nw.same rfl hv.symm b4, va_Nw.same rfl hv.symm b5, va_Nw.same rfl hv.symm b6⟩
def om_rc (d c z : Nat) : Room := { frames := d, cells := c, slots := z, locals := 64 * d }
def AC (r : Nat → Nat) (n sz : Nat) : Nat → Prop := fun q => (∃ (i : Nat) (p : Nat × Nat × Nat), i < n ∧ om_al[i]? = some p ∧ q = r p.1) ∨ sz ≤ q
/-- RUNS, of a constructor: from n cells and t writes to n' and t' -/
def Rc (d : Nat) (mi : Mi) (args : List Value) (n t n' t' : Nat) : Prop :=
  ∀ (l : Launch) (D : va_G) (r : Nat → Nat) (cA : Nat → ClassId) (sz : Nat), Met l mi.2.1 (Cond.code mi.2.1 mi.2.2.1 mi.2.2.2.1 mi.2.2.2.2 :: BIG) (om_rc d (n' - n) (sl n' - sl n))
    (va_Pc (args.map (om_cv r)) (fun U => U.heap.size = sz ∧ va_P D om_cl (cw r cA n t) U.heap ∧ va_K D om_cl (om_tys cA) U ∧ va_D (AC r n sz) (cw r cA n t) ∧ NX U))
    (va_Qv (fun r' : Nat → Nat => ag n n' r r') (fun r' tt => va_P D om_cl (cw r' cA n' t') tt.heap ∧ va_D (AC r n sz) (cw r' cA n' t')) (AC r n sz)) (n' - n) (sl n' - sl n) (AC r n sz)
def Gc (own : Nat) (bytes : ByteArray) (mL d n0 n1 : Nat) (J : Nat → Lc → List Value → Nat → Nat → Prop) : Prop :=
  ∃ (p : Program) (l : Launch) (e : Env) (R : Room) (s : State) (m : MethodId) (args : Array Value) (below : List Frame) (meth : Method) (c : Code) (Z : State → Prop) (D : va_G) (r0 : Nat → Nat) (cA : Nat → ClassId) (A : Nat → Prop),
    (p.tables.exec = Jvm.exec ∧ c.code = bytes ∧ c.maxLocals = mL ∧ s.vm.findClass (om_own own) = some m.cls ∧ (∀ w ∈ BIG, w.before args s = true) ∧ va_K D om_cl (om_tys cA) s ∧ NX s ∧ (∀ q, s.heap.size ≤ q → A q) ∧ d ≤ R.frames ∧ 64 * d ≤ R.locals ∧ n1 - n0 ≤ R.cells ∧ sl n1 - sl n0 ≤ R.slots ∧ (own < 9 → meth.name = "<init>")) ∧
    J = fun pc L st n t => ∀ (r : Nat → Nat) (H : Heap) (locs : List Loc) (ls : Array Slot), ag n0 n r0 r → va_P D om_cl (cw r cA n t) H → va_D A (cw r cA n t) → va_S A s.heap H locs → lvA r L ls mL → W p l e R s m args below meth c H locs (n - n0) (sl n - sl n0) Z (F0 m pc ls (st.map (om_cv r)))
theorem Rc.of {d : Nat} {mi : Mi} {args : List Value} {n t n' t' : Nat} (L0 : Lc) (hy : Jvm.plainName mi.2.1.cls = true) (hown : mi.2.1.cls = om_own mi.1) (hret : mi.2.2.2.2 = none) (hnm : mi.2.1.name = "<init>") (hL1 : (agL args).length ≤ mi.2.2.2.1) (hL : L0 = agL args ++ List.replicate (mi.2.2.2.1 - (agL args).length) none)
    (h : ∀ J, Gc mi.1 mi.2.2.1 mi.2.2.2.1 d n n' J → (∀ (pc : Nat) (L : Lc), decode mi.2.2.1 pc = .ok (.return_, 1) → J pc L [] n' t') → J 0 L0 [] n t) : Rc d mi args n t n' t' := by
  intro l D r cA sz
  refine Met.ofW (cc := mi.2.2.1) (maxL := mi.2.2.2.1) (ret := mi.2.2.2.2) hy rfl ?_
  intro p e s m args' below meth c s₁ B hml hv
  obtain ⟨rfl, hsz, hP, hK, hD, hE⟩ := hv
  have hx := B.exec
  have hb := B.bytes
  have hr := B.returns
  have hts := atoms_spec (ws := Cond.code mi.2.1 mi.2.2.1 mi.2.2.2.1 mi.2.2.2.2 :: BIG) B.pre
  have hown2 : s.vm.findClass (om_own mi.1) = some m.cls := by rw [← hown]; exact findClass_of_methodNamed B.named
  have hin : meth.name = "<init>" := ((name_of_methodNamed B.named B.method).1).trans hnm
  refine (h _ ⟨p, l, e, om_rc d (n' - n) (sl n' - sl n), s, m, _, below, meth, c, _, D, r, cA, AC r n sz, ⟨hx, hb, hml, hown2, fun w hw => hts w (List.mem_cons_of_mem _ hw), hK, hE, fun q hq => Or.inr (by rw [← hsz]; exact hq), Nat.le_refl d, Nat.le_refl (64 * d), Nat.le_refl _, Nat.le_refl _, fun _ => hin⟩, rfl⟩ ?_) r s.heap [] _ ag.rf hP hD va_S.rf (lvA_entry r args hL1 hL) |> (fun q => by rw [lg_entry_eq]; rw [Nat.sub_self, Nat.sub_self] at q; exact q)
  · intro pc L hd r' H locs ls hag hP1 hD1 hS1 hl1
    exact W.vret hx hb (hr.trans hret) (fun t ht hW => ⟨⟨r', rfl, hag, by rw [ht]; exact hP1, hD1⟩, hS1.F ht⟩) hS1.2.2 hd

section JCR
variable {own : Nat} {bytes : ByteArray} {mL d n0 n1 : Nat} {J : Nat → Lc → List Value → Nat → Nat → Prop} {pc n t : Nat} {L : Lc} {st : List Value}
theorem jc_aload_n (g : Gc own bytes mL d n0 n1 J) {i : Fin 4} {x : Nat} (hd : decode bytes pc = .ok (.aload_n i, 1)) (hv : ldL L i = some (.ref x)) (k : J (pc + 1) L (.ref x :: st) n t) : J pc L st n t := by
  obtain ⟨p, l, e, R, s, m, args, below, meth, c, Z, D, r0, cA, A, ⟨hx, hb, hml, hown, hts, hK, hNX, hA, hRf, hRl, hRc, hRs, hin⟩, rfl⟩ := g
  intro r H locs ls hag hP hD hS hl
  exact lv_aload_n hx hb hd rfl (hl.2.2 _ _ (ldL_at _ _ _ hv)) (k r H locs ls hag hP hD hS hl)
theorem jc_iload_n (g : Gc own bytes mL d n0 n1 J) {i : Fin 4} {x : Int32} (hd : decode bytes pc = .ok (.iload_n i, 1)) (hv : ldL L i = some (.int x)) (k : J (pc + 1) L (.int x :: st) n t) : J pc L st n t := by
  obtain ⟨p, l, e, R, s, m, args, below, meth, c, Z, D, r0, cA, A, ⟨hx, hb, hml, hown, hts, hK, hNX, hA, hRf, hRl, hRc, hRs, hin⟩, rfl⟩ := g
  intro r H locs ls hag hP hD hS hl
  exact lv_iload_n hx hb hd rfl (hl.2.2 _ _ (ldL_at _ _ _ hv)) (k r H locs ls hag hP hD hS hl)
theorem jc_iconst (g : Gc own bytes mL d n0 n1 J) {x : Int} (v : Int32) (hd : decode bytes pc = .ok (.iconst x, 1)) (hv : Int32.ofInt x = v) (k : J (pc + 1) L (.int v :: st) n t) : J pc L st n t := by
  obtain ⟨p, l, e, R, s, m, args, below, meth, c, Z, D, r0, cA, A, ⟨hx, hb, hml, hown, hts, hK, hNX, hA, hRf, hRl, hRc, hRs, hin⟩, rfl⟩ := g
  intro r H locs ls hag hP hD hS hl
  exact lv_iconst hx hb hd hv (k r H locs ls hag hP hD hS hl)
theorem jc_bipush (g : Gc own bytes mL d n0 n1 J) {x : Int} (v : Int32) (hd : decode bytes pc = .ok (.bipush x, 2)) (hv : (Int8.ofInt x).toInt32 = v) (k : J (pc + 2) L (.int v :: st) n t) : J pc L st n t := by
  obtain ⟨p, l, e, R, s, m, args, below, meth, c, Z, D, r0, cA, A, ⟨hx, hb, hml, hown, hts, hK, hNX, hA, hRf, hRl, hRc, hRs, hin⟩, rfl⟩ := g
  intro r H locs ls hag hP hD hS hl
  exact lv_bipush hx hb hd hv (k r H locs ls hag hP hD hS hl)
theorem jc_sipush (g : Gc own bytes mL d n0 n1 J) {x : Int} (v : Int32) (hd : decode bytes pc = .ok (.sipush x, 3)) (hv : (Int16.ofInt x).toInt32 = v) (k : J (pc + 3) L (.int v :: st) n t) : J pc L st n t := by
  obtain ⟨p, l, e, R, s, m, args, below, meth, c, Z, D, r0, cA, A, ⟨hx, hb, hml, hown, hts, hK, hNX, hA, hRf, hRl, hRc, hRs, hin⟩, rfl⟩ := g
  intro r H locs ls hag hP hD hS hl
  exact lv_sipush hx hb hd hv (k r H locs ls hag hP hD hS hl)
theorem jc_lconst (g : Gc own bytes mL d n0 n1 J) {x : Fin 2} (v : Int64) (hd : decode bytes pc = .ok (.lconst x, 1)) (hv : Int64.ofNat (x : Nat) = v) (k : J (pc + 1) L (.long v :: st) n t) : J pc L st n t := by
  obtain ⟨p, l, e, R, s, m, args, below, meth, c, Z, D, r0, cA, A, ⟨hx, hb, hml, hown, hts, hK, hNX, hA, hRf, hRl, hRc, hRs, hin⟩, rfl⟩ := g
  intro r H locs ls hag hP hD hS hl
  exact lv_lconst hx hb hd hv (k r H locs ls hag hP hD hS hl)
theorem jc_dup (g : Gc own bytes mL d n0 n1 J) {v : Value} (hd : decode bytes pc = .ok (.dup, 1)) (hv : v.category = 1) (k : J (pc + 1) L (v :: v :: st) n t) : J pc L (v :: st) n t := by
  obtain ⟨p, l, e, R, s, m, args, below, meth, c, Z, D, r0, cA, A, ⟨hx, hb, hml, hown, hts, hK, hNX, hA, hRf, hRl, hRc, hRs, hin⟩, rfl⟩ := g
  intro r H locs ls hag hP hD hS hl
  exact lv_dup hx hb hd (by rw [om_cat]; exact hv) (k r H locs ls hag hP hD hS hl)
theorem jc_istore_n (g : Gc own bytes mL d n0 n1 J) {i : Fin 4} {x : Int32} (hd : decode bytes pc = .ok (.istore_n i, 1)) (hn : (i : Nat) < mL) (k : J (pc + 1) (stL L i (.int x)) st n t) : J pc L (.int x :: st) n t := by
  obtain ⟨p, l, e, R, s, m, args, below, meth, c, Z, D, r0, cA, A, ⟨hx, hb, hml, hown, hts, hK, hNX, hA, hRf, hRl, hRc, hRs, hin⟩, rfl⟩ := g
  intro r H locs ls hag hP hD hS hl
  exact lv_istore_n hx hb hd rfl (lvA_has hl) hn rfl (fun ls2 h2 => k r H locs ls2 hag hP hD hS (lvA_st1 (v := .int x) h2 rfl))
theorem jc_astore_n (g : Gc own bytes mL d n0 n1 J) {i : Fin 4} {x : Nat} (hd : decode bytes pc = .ok (.astore_n i, 1)) (hn : (i : Nat) < mL) (k : J (pc + 1) (stL L i (.ref x)) st n t) : J pc L (.ref x :: st) n t := by
  obtain ⟨p, l, e, R, s, m, args, below, meth, c, Z, D, r0, cA, A, ⟨hx, hb, hml, hown, hts, hK, hNX, hA, hRf, hRl, hRc, hRs, hin⟩, rfl⟩ := g
  intro r H locs ls hag hP hD hS hl
  exact lv_astore_n hx hb hd rfl (lvA_has hl) hn rfl (fun ls2 h2 => k r H locs ls2 hag hP hD hS (lvA_st1 (v := .ref x) h2 rfl))
theorem jc_iinc (g : Gc own bytes mL d n0 n1 J) {i : Nat} {z : Int} {x : Int32} (v : Int32) (hd : decode bytes pc = .ok (.iinc i z, 3)) (hv : Int32.ofInt z = v) (hn : i < mL) (hx0 : ldL L i = some (.int x)) (k : J (pc + 3) (stL L i (.int (x + v))) st n t) : J pc L st n t := by
  obtain ⟨p, l, e, R, s, m, args, below, meth, c, Z, D, r0, cA, A, ⟨hx, hb, hml, hown, hts, hK, hNX, hA, hRf, hRl, hRc, hRs, hin⟩, rfl⟩ := g
  intro r H locs ls hag hP hD hS hl
  subst hv
  obtain ⟨q, hq⟩ := List.getElem?_of_mem (by simpa using lvl_in r L 0 i _ (ldL_at _ _ _ hx0) : (i, om_cv r (.int x)) ∈ lvl r 0 L)
  exact lv_iinc hx hb hd (lvA_has hl) hq rfl hn rfl (fun ls2 h2 => k r H locs ls2 hag hP hD hS (lvA_st1 (v := .int (x + Int32.ofInt z)) h2 rfl))
theorem jc_goto (g : Gc own bytes mL d n0 n1 J) {off : Int} {tgt : Nat} (hd : decode bytes pc = .ok (.goto off, 3)) (ht : (pc : Int) + off = (tgt : Int)) (k : J tgt L st n t) : J pc L st n t := by
  obtain ⟨p, l, e, R, s, m, args, below, meth, c, Z, D, r0, cA, A, ⟨hx, hb, hml, hown, hts, hK, hNX, hA, hRf, hRl, hRc, hRs, hin⟩, rfl⟩ := g
  intro r H locs ls hag hP hD hS hl
  exact lv_goto hx hb hd ht (k r H locs ls hag hP hD hS hl)
theorem jc_gt_t (g : Gc own bytes mL d n0 n1 J) {x y : Int32} {off : Int} {tgt : Nat} (hd : decode bytes pc = .ok (.if_icmp .gt off, 3)) (ht : (pc : Int) + off = (tgt : Int)) (hc : y < x) (k : J tgt L st n t) : J pc L (.int y :: .int x :: st) n t := by
  obtain ⟨p, l, e, R, s, m, args, below, meth, c, Z, D, r0, cA, A, ⟨hx, hb, hml, hown, hts, hK, hNX, hA, hRf, hRl, hRc, hRs, hin⟩, rfl⟩ := g
  intro r H locs ls hag hP hD hS hl
  exact lv_icmp_gt hx hb hd ht (fun q => k r H locs ls hag hP hD hS hl) (fun q => absurd hc (by first | exact q | simpa using q))
theorem jc_gt_f (g : Gc own bytes mL d n0 n1 J) {x y : Int32} {off : Int} {tgt : Nat} (hd : decode bytes pc = .ok (.if_icmp .gt off, 3)) (ht : (pc : Int) + off = (tgt : Int)) (hc : ¬ y < x) (k : J (pc + 3) L st n t) : J pc L (.int y :: .int x :: st) n t := by
  obtain ⟨p, l, e, R, s, m, args, below, meth, c, Z, D, r0, cA, A, ⟨hx, hb, hml, hown, hts, hK, hNX, hA, hRf, hRl, hRc, hRs, hin⟩, rfl⟩ := g
  intro r H locs ls hag hP hD hS hl
  exact lv_icmp_gt hx hb hd ht (fun q => absurd (by first | exact q | simpa using q) hc) (fun q => k r H locs ls hag hP hD hS hl)
theorem jc_ge_t (g : Gc own bytes mL d n0 n1 J) {x y : Int32} {off : Int} {tgt : Nat} (hd : decode bytes pc = .ok (.if_icmp .ge off, 3)) (ht : (pc : Int) + off = (tgt : Int)) (hc : y ≤ x) (k : J tgt L st n t) : J pc L (.int y :: .int x :: st) n t := by
  obtain ⟨p, l, e, R, s, m, args, below, meth, c, Z, D, r0, cA, A, ⟨hx, hb, hml, hown, hts, hK, hNX, hA, hRf, hRl, hRc, hRs, hin⟩, rfl⟩ := g
  intro r H locs ls hag hP hD hS hl
  exact lv_icmp_ge hx hb hd ht (fun q => k r H locs ls hag hP hD hS hl) (fun q => absurd hc (by first | exact q | simpa using q))
theorem jc_ge_f (g : Gc own bytes mL d n0 n1 J) {x y : Int32} {off : Int} {tgt : Nat} (hd : decode bytes pc = .ok (.if_icmp .ge off, 3)) (ht : (pc : Int) + off = (tgt : Int)) (hc : ¬ y ≤ x) (k : J (pc + 3) L st n t) : J pc L (.int y :: .int x :: st) n t := by
  obtain ⟨p, l, e, R, s, m, args, below, meth, c, Z, D, r0, cA, A, ⟨hx, hb, hml, hown, hts, hK, hNX, hA, hRf, hRl, hRc, hRs, hin⟩, rfl⟩ := g
  intro r H locs ls hag hP hD hS hl
  exact lv_icmp_ge hx hb hd ht (fun q => absurd (by first | exact q | simpa using q) hc) (fun q => k r H locs ls hag hP hD hS hl)
theorem jc_obj (g : Gc own bytes mL d n0 n1 J) {idx a : Nat} (h1 : 1 ≤ d) (hlk : Cond.methodLink (om_own own) idx Lib.objectInit ∈ BIG) (hi0 : Cond.instanceMethod Lib.objectInit ∈ BIG) (hc0 : Cond.code Lib.objectInit ⟨#[0xb1]⟩ 1 none ∈ BIG) (hW : (st.map fun v => v.category).sum ≤ 8) (hd : decode bytes pc = .ok (.invokespecial idx, 3)) (k : J (pc + 3) L st n t) : J pc L (.ref a :: st) n t := by
  obtain ⟨p, l, e, R, s, m, args, below, meth, c, Z, D, r0, cA, A, ⟨hx, hb, hml, hown, hts, hK, hNX, hA, hRf, hRl, hRc, hRs, hin⟩, rfl⟩ := g
  intro r H locs ls hag hP hD hS hl
  refine W.objInit hx hb hown (hts _ hlk) (hts _ hi0) (hts _ hc0) rfl (by rw [hml]; exact hl.1) rfl hd (by omega) ?_ ?_
  · have := om_cats r st
    show 2 * 0 + ((st.map (om_cv r)).map fun v => v.category).sum + 12 ≤ R.locals
    omega
  · exact W.eq (g2 := F0 m (pc + 3) ls (st.map (om_cv r))) rfl (k r H locs ls hag hP hD hS hl)
end JCR
