/-! the constructors: the host's rows of longs -/
def r5 (r : Nat → Nat) (B : Nat) : Nat → Nat := fun x => if x = 533 then B else if x = 534 then B + 1 else if x = 535 then B + 2 else if x = 536 then B + 3 else if x = 537 then B + 4 else r x
section B4
variable {own : Nat} {bytes : ByteArray} {mL d n0 n1 : Nat} {J : Nat → Lc → List Value → Nat → Nat → Prop} {pc n t : Nat} {L : Lc} {st : List Value}
theorem r5_o {r : Nat → Nat} {B x : Nat} (h : ¬ (533 ≤ x ∧ x ≤ 537)) : r5 r B x = r x := by
  unfold r5
  rw [if_neg (by omega), if_neg (by omega), if_neg (by omega), if_neg (by omega), if_neg (by omega)]
theorem r5_j {r : Nat → Nat} {B j : Nat} (h : j < 5) : r5 r B (533 + j) = B + j := by
  have hk : j = 0 ∨ j = 1 ∨ j = 2 ∨ j = 3 ∨ j = 4 := by omega
  rcases hk with rfl | rfl | rfl | rfl | rfl <;> rfl
theorem outer_arr {c : ClassId} {B : Nat} {f : Nat → Value} (hf : ∀ j, j < 4 → f j = .ref (B + 1 + j)) : Jvm.Free.Multi.outerC c 4 B 4 = arrV c 4 f := by
  obtain ⟨-, -, o3⟩ := Jvm.Free.Multi.outerC_facts c 4 B 4
  have o4 := Jvm.Free.Multi.outerC_slot c 4 B 4
  obtain ⟨slots, hsl⟩ : ∃ slots, Jvm.Free.Multi.outerC c 4 B 4 = { cls := c, slots := slots, vm := .none } := ⟨_, rfl⟩
  rw [hsl] at o3 o4 ⊢
  unfold arrV
  congr 1
  apply Array.ext_getElem?
  intro j
  by_cases hj : j < 4
  · rw [o4 j hj, if_pos hj]
    have : (Array.ofFn (n := 4) fun j => f j.val)[j]? = some (f j) := by
      rw [Array.getElem?_ofFn, dif_pos hj]
    rw [this, hf j hj]
  · rw [Array.getElem?_eq_none (by simpa using Nat.le_of_not_lt hj |> fun h => by rw [o3]; exact h), Array.getElem?_eq_none (by simpa using hj)]
theorem jc_multi (g : Gc own bytes mL d n0 n1 J) {idx : Nat} (hal : ∀ j, j < 5 → om_al[n + j]? = some (533 + j, (if j = 0 then 14 else 11), (if j = 0 then 4 else 40))) (hw : ∀ j, j < 4 → om_wr[t + j]? = some (533, j, .ref (534 + j))) (h0 : n0 ≤ n) (h1 : n + 5 ≤ n1) (hok : okN n (n + 5) t L st = true) (w1 : Cond.classLink (om_own own) idx ("[" ++ (FieldType.array .long).toString) ∈ BIG) (w2 : Cond.arrayClass .long ∈ BIG) (hd : decode bytes pc = .ok (.multianewarray idx 2, 4)) (k : J (pc + 4) L (.ref 533 :: st) (n + 5) (t + 4)) : J pc L (.int 40 :: .int 4 :: st) n t := by
  obtain ⟨p, l, e, R, s, m, args, below, meth, c, Z, D, r0, cA, A, ⟨hx, hb, hml, hown, hts, hK, hNX, hA, hRf, hRl, hRc, hRs, hin⟩, rfl⟩ := g
  intro r H locs ls hag hP hD hS hl
  obtain ⟨o1, o2, o3, o4⟩ := okN_s hok
  have m0 := sl_mono h0
  have m1 := sl_mono h1
  have s0 : sl (n + 1) = sl n + 4 := sl_s (hal 0 (by omega))
  have s1 : sl (n + 1 + 1) = sl (n + 1) + 40 := sl_s (hal 1 (by omega))
  have s2 : sl (n + 2 + 1) = sl (n + 2) + 40 := sl_s (hal 2 (by omega))
  have s3 : sl (n + 3 + 1) = sl (n + 3) + 40 := sl_s (hal 3 (by omega))
  have s4 : sl (n + 4 + 1) = sl (n + 4) + 40 := sl_s (hal 4 (by omega))
  have z2 : sl (n + 1 + 1) = sl (n + 2) := rfl
  have z3 : sl (n + 2 + 1) = sl (n + 3) := rfl
  have z4 : sl (n + 3 + 1) = sl (n + 4) := rfl
  have z5 : sl (n + 4 + 1) = sl (n + 5) := rfl
  have s5 : sl (n + 5) = sl n + 164 := by omega
  clear s0 s1 s2 s3 s4
  have N4 : Int32.toNatClampNeg (4 : Int32) = 4 := by decide
  have N40 : Int32.toNatClampNeg (40 : Int32) = 40 := by decide
  intro T hT X
  obtain ⟨vm₁, cA', comp, hWm, hfA, hfC, -, -, X1, step⟩ := X.multianewarray2F hx (own := om_own own) (index := idx) (ty := .long) hown (hts _ w1) (show (Cond.arrayOver (.array .long)).before args s = true from hNX.1.2.2) (hts _ w2) (g := F0 m pc ls ((Value.int 40 :: .int 4 :: st).map (om_cv r))) rfl (by rw [hb]; exact hd) (n := 4) (k := 40) (rest := st.map (om_cv r)) rfl (by decide) (by decide) (by rw [N4]; omega) (by rw [N40]; show 40 * 8 ≤ _; omega) (by rw [N40]; omega) rfl rfl (by rw [N4]; omega) (by rw [N4, N40]; omega)
  rw [N4, N40] at X1 step
  have ecA : cA' = cA 14 := Option.some.inj (hfA.symm.trans ((hK.2 5 (cA 14, .array .long) rfl).2))
  have eco : comp = cA 11 := Option.some.inj (hfC.symm.trans ((hK.2 2 (cA 11, .long) rfl).2))
  subst ecA
  subst eco
  obtain ⟨f1, f2, -, -⟩ := Jvm.Free.Multi.fill_facts (T.setVm vm₁) (cA 14) (cA 11) 4 40 (defaultValue .long) 4
  have f3 := fun {a : Nat} (ha : a < (T.setVm vm₁).heap.size) => Jvm.Free.Multi.fill_old (T.setVm vm₁) (cA 14) (cA 11) 4 40 (defaultValue .long) ha 4
  have f4 := Jvm.Free.Multi.fill_inner (T.setVm vm₁) (cA 14) (cA 11) 4 40 (defaultValue .long) 4
  have eH : (T.setVm vm₁).heap = H := hT
  rw [eH] at f1 f2 f4
  have f3' : ∀ a : Nat, a < H.size → (Jvm.Free.Multi.fill (T.setVm vm₁) (cA 14) (cA 11) 4 40 (defaultValue .long) 4).heap[a]? = H[a]? := fun a ha => by
    rw [f3 (by rw [eH]; exact ha), eH]
  have eTH : T.heap.size = H.size := by rw [hT]
  rw [eTH] at step
  generalize Jvm.Free.Multi.fill (T.setVm vm₁) (cA 14) (cA 11) 4 40 (defaultValue .long) 4 = T2 at X1 step f1 f2 f3' f4
  clear f3 eH
  have hagr : ag n (n + 5) r (r5 r H.size) := fun b hb' => r5_o (fun u => hb' (n + (b - 533)) _ (by omega) (by omega) (hal (b - 533) (by omega)) (by show b = 533 + (b - 533); omega))
  have eX : ∀ b, b ≠ 533 → XS (t + 4) b = XS t b := fun b hbne => by
    have e0 := XS_s (hw 0 (by omega))
    have e1 := XS_s (hw 1 (by omega))
    have e2 := XS_s (hw 2 (by omega))
    have e3 := XS_s (hw 3 (by omega))
    funext j
    show XS (t + 3 + 1) b j = XS t b j
    rw [e3]
    show (if b = 533 ∧ j = 3 then _ else XS (t + 2 + 1) b j) = _
    rw [if_neg (fun u => hbne u.1), e2]
    show (if b = 533 ∧ j = 2 then _ else XS (t + 1 + 1) b j) = _
    rw [if_neg (fun u => hbne u.1), e1]
    show (if b = 533 ∧ j = 1 then _ else XS (t + 0 + 1) b j) = _
    rw [if_neg (fun u => hbne u.1), e0]
    show (if b = 533 ∧ j = 0 then _ else XS t b j) = _
    rw [if_neg (fun u => hbne u.1)]
  have eW : ∀ j, j < 4 → XS (t + 4) 533 j = .ref (534 + j) := fun j hj => by
    have e0 := XS_s (hw 0 (by omega))
    have e1 := XS_s (hw 1 (by omega))
    have e2 := XS_s (hw 2 (by omega))
    have e3 := XS_s (hw 3 (by omega))
    have hk : j = 0 ∨ j = 1 ∨ j = 2 ∨ j = 3 := by omega
    show XS (t + 3 + 1) 533 j = _
    rw [e3]
    show (if 533 = 533 ∧ j = 3 then _ else XS (t + 2 + 1) 533 j) = _
    rcases hk with rfl | rfl | rfl | rfl
    · rw [if_neg (by omega), e2]
      show (if 533 = 533 ∧ 0 = 2 then _ else XS (t + 1 + 1) 533 0) = _
      rw [if_neg (by omega), e1]
      show (if 533 = 533 ∧ 0 = 1 then _ else XS (t + 0 + 1) 533 0) = _
      rw [if_neg (by omega), e0]
      rfl
    · rw [if_neg (by omega), e2]
      show (if 533 = 533 ∧ 1 = 2 then _ else XS (t + 1 + 1) 533 1) = _
      rw [if_neg (by omega), e1]
      rfl
    · rw [if_neg (by omega), e2]
      rfl
    · rfl
  have old : ∀ (i : Nat) (a kd z : Nat), i < n → om_al[i]? = some (a, kd, z) → (r5 r H.size a, cX (r5 r H.size) cA (XS (t + 4)) a kd z) = (r a, cX r cA (XS t) a kd z) := fun i a kd z hi ha => by
    have hne : ∀ j, j < 5 → a ≠ 533 + j := fun j hj u => by
      have := al_inj ha (hal j hj) u
      omega
    have e1 : cX (r5 r H.size) cA (XS (t + 4)) a kd z = cX (r5 r H.size) cA (XS t) a kd z := by
      unfold cX
      rw [eX a (hne 0 (by omega))]
    rw [e1, cX_r o1 hagr]
    rw [r5_o (fun u => hne (a - 533) (by omega) (by omega))]
  have cas : ∀ (i : Nat) (q : Nat × va_E), (cw (r5 r H.size) cA (n + 5) (t + 4))[i]? = some q → (i < n ∧ (cw r cA n t)[i]? = some q) ∨ ∃ j, j < 5 ∧ i = n + j ∧ q = (H.size + j, cX (r5 r H.size) cA (XS (t + 4)) (533 + j) (if j = 0 then 14 else 11) (if j = 0 then 4 else 40)) := fun i q hq => by
    have hl' := (List.getElem?_eq_some_iff.mp hq).1
    have hi5 : i < n + 5 := by
      unfold cw at hl'
      rw [List.length_map, List.length_take] at hl'
      omega
    by_cases hi : i < n
    · refine Or.inl ⟨hi, ?_⟩
      cases ha : om_al[i]? with
      | none =>
        unfold cw at hq
        rw [List.getElem?_map, List.getElem?_take_of_lt hi5, ha] at hq
        cases hq
      | some pp =>
        obtain ⟨a, kd, z⟩ := pp
        rw [cw_at ha hi5] at hq
        rw [cw_at ha hi, ← hq, old i a kd z hi ha]
    · refine Or.inr ⟨i - n, by omega, by omega, ?_⟩
      have ha := hal (i - n) (by omega)
      rw [show n + (i - n) = i by omega] at ha
      rw [cw_at ha hi5, r5_j (by omega)] at hq
      exact (Option.some.inj hq).symm
  have hP1 : va_P D om_cl (cw (r5 r H.size) cA (n + 5) (t + 4)) T2.heap := fun i q hq => by
    rcases cas i q hq with ⟨hi, hq2⟩ | ⟨j, hj, rfl, rfl⟩
    · have := hP i q hq2
      exact this.kept (f3' _ this.lt)
    · by_cases hj0 : j = 0
      · subst hj0
        show va_at D om_cl (H.size + 0, cX (r5 r H.size) cA (XS (t + 4)) 533 14 4) T2.heap
        unfold cX
        rw [if_neg (by omega), if_neg (by omega), if_pos (by omega)]
        show T2.heap[H.size]? = some (vp_cell _ _)
        rw [f2, vp_cell_q]
        refine congrArg some (outer_arr (fun j hj => ?_))
        rw [eW j hj]
        show Value.ref (r5 r H.size (534 + j)) = _
        rw [show 534 + j = 533 + (j + 1) by omega, r5_j (by omega)]
        exact congrArg Value.ref (show H.size + (j + 1) = H.size + 1 + j by omega)
      · rw [if_neg hj0, if_neg hj0]
        have hu := o4 (n + j) _ (by omega) (by omega) (hal j hj)
        rw [if_neg hj0, if_neg hj0] at hu
        have hne : 533 + j ≠ 533 := by omega
        have e1 : cX (r5 r H.size) cA (XS (t + 4)) (533 + j) 11 40 = cX (r5 r H.size) cA (XS t) (533 + j) 11 40 := by
          unfold cX
          rw [eX _ hne]
        rw [e1, cX_defJ hu.1 hu.2]
        show T2.heap[H.size + j]? = some (vp_cell _ _)
        have := f4 (j - 1) (by omega)
        rw [show H.size + 1 + (j - 1) = H.size + j by omega] at this
        rw [this, vp_cell_l]
        unfold Jvm.Free.Multi.innerC
        exact congrArg some (arrV_new ..)
  have hD1 : va_D A (cw (r5 r H.size) cA (n + 5) (t + 4)) := by
    refine ⟨fun i j p' q' hp hq e => ?_, fun i q hq => ?_⟩
    · rcases cas i p' hp with ⟨hi, hp2⟩ | ⟨x, hx5, rfl, rfl⟩
      · have l1 := (hP i p' hp2).lt
        rcases cas j q' hq with ⟨hj, hq2⟩ | ⟨y, hy5, rfl, rfl⟩
        · exact hD.1 i j p' q' hp2 hq2 e
        · rw [e] at l1
          have l1' : H.size + y < H.size := l1
          omega
      · rcases cas j q' hq with ⟨hj, hq2⟩ | ⟨y, hy5, rfl, rfl⟩
        · have l1 := (hP j q' hq2).lt
          rw [← e] at l1
          have l1' : H.size + x < H.size := l1
          omega
        · have e' : H.size + x = H.size + y := e
          omega
    · rcases cas i q hq with ⟨hi, hq2⟩ | ⟨x, hx5, rfl, rfl⟩
      · exact hD.2 i q hq2
      · exact hA _ (Nat.le_trans hS.1 (Nat.le_add_right _ _))
  have hS1 : va_S A s.heap T2.heap locs := ⟨by rw [f1]; have := hS.1; omega, fun q u v => by rw [f3' q (Nat.lt_of_lt_of_le u hS.1)]; exact hS.2.1 q u v, hS.2.2⟩
  have kk := k (r5 r H.size) T2.heap locs ls (hag.tr hagr h0 (by omega)) hP1 hD1 hS1 (okL_lv o2 hagr hl) T2 rfl
  have c1 : n - n0 + 1 + 4 = n + 5 - n0 := by omega
  have c2 : sl n - sl n0 + 4 + 4 * 40 = sl (n + 5) - sl n0 := by omega
  rw [c1, c2] at X1
  obtain ⟨t2, a1, b1⟩ := kk X1
  refine ⟨t2, step t2 ?_, b1⟩
  have es : (Value.ref 533 :: st).map (om_cv (r5 r H.size)) = .ref H.size :: st.map (om_cv r) := by
    show Value.ref (r5 r H.size 533) :: st.map (om_cv (r5 r H.size)) = _
    rw [okS_map o3 hagr]
    rfl
  rw [es] at a1
  exact a1
end B4
