/-! behind the constructors: the memory, the relation -/
def M0 : Mm := (fun a k => vI (XS 384 a k), fun a k => vJ (XS 384 a k))
def isI : Value → Bool
  | .int _ => true
  | _ => false
def isJ : Value → Bool
  | .long _ => true
  | _ => false
def okf (ty : FieldType) (v : Value) (b : Nat) : Bool := match ty with
  | .int => isI v
  | .boolean => isI v
  | .long => isJ v
  | _ => v == .ref b
def okc (q : Nat × Nat × Nat) : Bool := if q.2.1 < 9 then (List.range (om_nf q.2.1)).all (fun j => okf (om_ty q.2.1 j) (XS 384 q.1 j) (rf q.1 j)) else if 12 ≤ q.2.1 then (List.range q.2.2).all (fun j => XS 384 q.1 j == .ref (rf q.1 j)) else true
set_option maxRecDepth 100000 in
theorem okc_all : om_obj.all okc = true := by decide +kernel
set_option maxRecDepth 100000 in
theorem obj_al : om_obj.all (fun q => om_al.contains q) = true := by decide +kernel
theorem al_len : om_al.length = 139 := by decide +kernel
theorem okf_v {a k j : Nat} (h : okf (om_ty k j) (XS 384 a j) (rf a j) = true) (r : Nat → Nat) : om_cv r (XS 384 a j) = om_fv r M0 a k j := by
  unfold om_fv
  have e1 : M0.1 a j = vI (XS 384 a j) := rfl
  have e2 : M0.2 a j = vJ (XS 384 a j) := rfl
  rw [e1, e2]
  generalize om_ty k j = ty at h ⊢
  generalize XS 384 a j = v at h ⊢
  generalize rf a j = b at h ⊢
  cases ty with
  | int => cases v <;> first | rfl | (exact absurd h (by simp [okf, isI]))
  | boolean => cases v <;> first | rfl | (exact absurd h (by simp [okf, isI]))
  | long => cases v <;> first | rfl | (exact absurd h (by simp [okf, isJ]))
  | _ =>
    have e : v = .ref b := by simpa [okf] using h
    subst e
    rfl
theorem arrV_c {c : ClassId} {n : Nat} {f g : Nat → Value} (h : ∀ j, j < n → f j = g j) : arrV c n f = arrV c n g := by
  unfold arrV
  congr 1
  apply congrArg
  funext j
  exact h j.val j.isLt
theorem cell_at {D : va_G} {r : Nat → Nat} {cA : Nat → ClassId} {H : Heap} {q : Nat × Nat × Nat} (hq : q ∈ om_obj) (h : va_at D om_cl (r q.1, cX r cA (XS 384) q.1 q.2.1 q.2.2) H) : va_at D om_cl (r q.1, om_cell r cA M0 q.1 q.2.1 q.2.2) H := by
  have ok := List.all_eq_true.mp okc_all q hq
  obtain ⟨a, k, n⟩ := q
  unfold okc at ok
  dsimp only at h ok ⊢
  unfold cX at h
  by_cases h9 : k < 9
  · rw [if_pos h9] at h ok
    rw [om_cell_obj h9]
    have e : (List.range (om_nf k)).map (fun j => om_cv r (XS 384 a j)) = (List.range (om_nf k)).map (om_fv r M0 a k) := List.map_congr_left (fun j hj => okf_v (List.all_eq_true.mp ok j hj) r)
    rw [e] at h
    exact h
  · rw [if_neg h9] at h ok
    by_cases h11 : k = 11
    · rw [if_pos h11] at h
      unfold om_cell
      rw [if_neg (by omega), if_neg (by omega), if_pos h11]
      exact h
    · rw [if_neg h11] at h
      by_cases h12 : 12 ≤ k
      · rw [if_pos h12] at h ok
        unfold om_cell
        rw [if_neg (by omega), if_neg (by omega), if_neg (by omega), if_pos h12]
        have h' : H[r a]? = some (vp_cell (cA k) (n, .inr (.inr (.inr (.inr (fun j => vR r (XS 384 a j))))))) := h
        show H[r a]? = some (vp_cell (cA k) (n, .inr (.inr (.inr (.inr (fun i => some (r (rf a i))))))))
        rw [h', vp_cell_q, vp_cell_q]
        refine congrArg some (arrV_c (fun j hj => ?_))
        have e : XS 384 a j = .ref (rf a j) := by simpa using List.all_eq_true.mp ok j (List.mem_range.mpr hj)
        rw [e]
        rfl
      · rw [if_neg h12] at h
        have hk : k = 9 ∨ k = 10 := by omega
        unfold om_cell
        rcases hk with rfl | rfl
        · rw [if_pos rfl]; exact h
        · rw [if_neg (by omega), if_pos rfl]; exact h
theorem in_al {q : Nat × Nat × Nat} (hq : q ∈ om_obj) : ∃ i, i < 139 ∧ om_al[i]? = some q := by
  have := List.all_eq_true.mp obj_al q hq
  have hm : q ∈ om_al := by simpa using this
  obtain ⟨i, hi⟩ := List.getElem?_of_mem hm
  exact ⟨i, by rw [← al_len]; exact (List.getElem?_eq_some_iff.mp hi).1, hi⟩
theorem fin_P {D : va_G} {r : Nat → Nat} {cA : Nat → ClassId} {H : Heap} (h : va_P D om_cl (cw r cA 139 384) H) : va_P D om_cl (om_ws r cA M0) H := fun k q hk => by
  unfold om_ws at hk
  rw [List.getElem?_map] at hk
  cases ho : om_obj[k]? with
  | none => rw [ho] at hk; cases hk
  | some p =>
    rw [ho] at hk
    cases hk
    have hm := List.mem_of_getElem? ho
    obtain ⟨i, hi, ha⟩ := in_al hm
    exact cell_at hm (h i _ (cw_at (k := p.2.1) (m := p.2.2) ha hi))
theorem fin_D {A : Nat → Prop} {r : Nat → Nat} {cA : Nat → ClassId} (h : va_D A (cw r cA 139 384)) {M : Mm} : va_D A (om_ws r cA M) := by
  have g : ∀ (k : Nat) (q : Nat × va_E), (om_ws r cA M)[k]? = some q → ∃ p i, om_obj[k]? = some p ∧ i < 139 ∧ om_al[i]? = some p ∧ q.1 = r p.1 := fun k q hk => by
    unfold om_ws at hk
    rw [List.getElem?_map] at hk
    cases ho : om_obj[k]? with
    | none => rw [ho] at hk; cases hk
    | some p =>
      rw [ho] at hk
      cases hk
      obtain ⟨i, hi, ha⟩ := in_al (List.mem_of_getElem? ho)
      exact ⟨p, i, rfl, hi, ha, rfl⟩
  refine ⟨fun i j p q hp hq e => ?_, fun k q hk => ?_⟩
  · obtain ⟨p1, i1, a1, b1, c1, d1⟩ := g i p hp
    obtain ⟨q1, j1, a2, b2, c2, d2⟩ := g j q hq
    have e1 : i1 = j1 := h.1 i1 j1 _ _ (cw_at (k := p1.2.1) (m := p1.2.2) c1 b1) (cw_at (k := q1.2.1) (m := q1.2.2) c2 b2) (by rw [← d1, ← d2]; exact e)
    subst e1
    have e2 : p1 = q1 := Option.some.inj (c1.symm.trans c2)
    subst e2
    have f1 : (om_obj.map (fun q => q.1))[i]? = some p1.1 := by rw [List.getElem?_map, a1]; rfl
    have f2 : (om_obj.map (fun q => q.1))[j]? = some p1.1 := by rw [List.getElem?_map, a2]; rfl
    obtain ⟨l1, g1⟩ := List.getElem?_eq_some_iff.mp f1
    obtain ⟨l2, g2⟩ := List.getElem?_eq_some_iff.mp f2
    exact (List.getElem_inj om_nd).mp (g1.trans g2.symm)
  · obtain ⟨p1, i1, a1, b1, c1, d1⟩ := g k q hk
    rw [d1]
    exact h.2 i1 _ (cw_at (k := p1.2.1) (m := p1.2.2) c1 b1)
/-! the relation at the start -/
def T00 : Tw := fun a k => if a = 3 then (if k = 1 then 1 else if k = 2 then 5 else if k = 3 then 3 else 0) else 0
def S00 : Tw := fun _ _ => 0
theorem m0_a : (M0.1 100 0 = 0 ∧ M0.1 100 1 = 0 ∧ M0.1 100 2 = 0 ∧ M0.1 100 3 = 0) ∧ (M0.1 600 0 = 0 ∧ M0.1 600 1 = 0 ∧ M0.1 600 2 = 0 ∧ M0.1 600 12 = 0) ∧ (M0.1 1000 4 = 0 ∧ M0.1 1000 5 = 0 ∧ M0.1 607 21 = 0 ∧ M0.1 600 10 = 0 ∧ M0.1 600 11 = 0) := by decide +kernel
theorem m0_l : ∀ k, k < 4 → M0.1 104 k = iI (T00 3 k) ∧ M0.1 604 k = iI (T00 3 k) := by decide +kernel
theorem m0_b : (M0.1 1 8 = 0 ∧ M0.1 600 42 = 0) ∧ (M0.1 500 1 = 0 ∧ M0.1 600 15 = 0) ∧ (M0.1 520 1 = 0 ∧ M0.1 600 53 = 0) ∧ (M0.1 1 9 = 0 ∧ M0.1 600 55 = 0) ∧ M0.1 1020 5 = 0 := by decide +kernel
theorem m0_h : ∀ k, k < 4 → (M0.1 531 k = iI (-1) ∧ M0.1 620 k = iI (-1) ∧ M0.1 532 k = iI 0 ∧ M0.1 621 k = iI 0) ∧ (M0.1 538 k = iI 2 ∧ M0.1 623 k = iI (-1) ∧ M0.1 539 k = M0.1 624 k ∧ M0.1 540 k = M0.1 625 k) := by decide +kernel
theorem m0_c : ∀ k, k < 4 → M0.1 605 k = om_least k ∧ M0.1 606 k = om_most k := by decide +kernel
theorem m0_j : (∀ k, k < 4 → unt 384 (534 + k) = true ∧ gk (534 + k) = 11) ∧ unt 384 622 = true ∧ gk 622 = 11 := by decide +kernel
theorem j0 {a : Nat} (h : unt 384 a = true) (hg : gk a = 11) (k : Nat) : M0.2 a k = 0 := by
  show vJ (XS 384 a k) = 0
  rw [XS_un h]
  unfold X0
  rw [hg, if_neg (by omega), if_pos rfl]
  rfl
theorem rel0 : Rel M0 0 := by
  obtain ⟨⟨a0, a1, a2, a3⟩, ⟨b0, b1, b2, b3⟩, c0, c1, c2, c3, c4⟩ := m0_a
  obtain ⟨⟨d0, d1⟩, ⟨e0, e1⟩, ⟨f0, f1⟩, ⟨g0, g1⟩, h0⟩ := m0_b
  have z : ∀ k, T00 0 k = 0 := fun k => rfl
  refine ⟨⟨T00, S00, 0, ⟨⟨⟨a0, a1, a2⟩, fun x u v => ?_, fun x u v => ?_, fun k hk => (m0_l k hk).1, fun w f u v => ?_⟩, ⟨fun x u v => ?_, fun x u v => ?_, fun x u v => ?_, fun x u v => ?_, c0⟩, c1, a3, fun x u v => ?_⟩, ⟨⟨⟨b0, b1, b2⟩, fun x u v => ?_, fun x u v => ?_, fun k hk => (m0_l k hk).2, fun w f u v => ?_⟩, ⟨fun x u v => ?_, fun x u v => ?_, fun x u v => ?_, fun x u v => ?_, c2⟩, ⟨c3, by omega⟩, c4, b3, fun x u v => ?_⟩, ⟨⟨by rw [z]; omega, by rw [z]; omega, by rw [z]; omega⟩, fun x u v => ?_, fun x u v => ?_, by decide, fun w u => ?_⟩, ⟨by rw [z]; omega, fun x u v => ?_⟩, ⟨fun x u v => ?_, fun x u v => ?_, fun x u v => ?_, fun x u v => ?_, ⟨Int.le_refl 0, by show (0 : Int) ≤ 4000 * ((0 : Nat) : Int); omega⟩, by show 4000 * ((0 : Nat) : Int) ≤ 1000000; omega⟩, Int.le_refl 0, by omega⟩, ⟨0, by omega, d0, d1, fun j hj => absurd hj (by omega)⟩, ⟨0, by omega, e0, e1, fun j hj => absurd hj (by omega)⟩, ⟨0, by omega, f0, f1, fun j hj => absurd hj (by omega)⟩, fun k hk => ?_, Or.inl ⟨g0, g1⟩, h0, m0_c⟩
  all_goals first | (rw [z] at v; omega) | (rw [z] at u; omega) | skip
  obtain ⟨⟨x1, x2, x3, x4⟩, y1, y2, y3, y4⟩ := m0_h k hk
  obtain ⟨q1, q2, q3⟩ := m0_j
  refine ⟨⟨-1, 0, by omega, by omega, x1, x2, x3, x4⟩, fun i hi => ⟨?_, 0, ?_⟩, ⟨2, 0, by omega, y1, by rw [if_pos rfl]; exact y2, y3, y4, fun u => absurd u (by omega)⟩⟩
  · rw [j0 (q1 k hk).1 (q1 k hk).2, j0 q2 q3]
  · rw [j0 (q1 k hk).1 (q1 k hk).2]
    decide
