/-! the reference's search: one order after another -/
theorem gd1_u {m len : Nat} {l : List Nat} (h : gd1 m len l = true) : l.length = len ∧ (∀ i, i < len → toF l i < 6 ∧ m.testBit (toF l i) = true) ∧ ∀ i j, i < j → j < len → toF l i ≠ toF l j := by
  unfold gd1 at h
  rw [Bool.and_eq_true, Bool.and_eq_true, beq_iff_eq, List.all_eq_true, List.all_eq_true] at h
  obtain ⟨⟨h1, h2⟩, h3⟩ := h
  refine ⟨h1, fun i hi => ?_, fun i j hi hj e => ?_⟩
  · have ek : l[i] = toF l i := by unfold toF; rw [List.getD_eq_getElem?_getD, List.getElem?_eq_getElem (by omega)]; rfl
    have := h2 l[i] (List.getElem_mem (by omega))
    rw [ek, Bool.and_eq_true, decide_eq_true_iff] at this
    exact this
  · have := h3 j (List.mem_range.mpr hj)
    rw [List.all_eq_true] at this
    have := this i (List.mem_range.mpr hi)
    rw [e] at this
    revert this
    rw [beq_self_eq_true]
    decide
theorem l23_s (x1 : Int32) (σ : Mm × Int32) : ∀ k, l_X8_findBest_23 x1 (s_X8_findBest_23 x1 σ) k = l_X8_findBest_23 x1 σ (k + 1)
  | 0 => rfl
  | k + 1 => by
    show s_X8_findBest_23 x1 (l_X8_findBest_23 x1 (s_X8_findBest_23 x1 σ) k) = s_X8_findBest_23 x1 (l_X8_findBest_23 x1 σ (k + 1))
    rw [l23_s x1 σ k]
section P81
variable {M D : Mm} {T S : Tw} {mb : Int} {len n : Nat} {b : Bt}
theorem r_try (hT : RT D T) (ha : RA D 0) (hS : RS D 0 T S) (hI : InvT T) (hJ : InvS T S mb) (hm : mb ≤ 700000) {l : List Nat} (hl : gd1 (oMask S (T 0 2).toNat) len l = true) (l6 : len ≤ 6) (h14 : ∀ i, i < len → D.1 614 i = iI ((toF l i : Nat) : Int)) (hB : RB D b len) :
    q_X8_findBest_23 (iI (len : Int)) (D, 1) ∧ ∃ E, RB (w_X8_nextOrder E (iI (len : Int))) (vis T b l (S, 0, 0) []) len ∧ s_X8_findBest_23 (iI (len : Int)) (D, 1) = (w_X8_nextOrder E (iI (len : Int)), r_X8_nextOrder E (iI (len : Int))) ∧ (nx (toF l) len = none → r_X8_nextOrder E (iI (len : Int)) = 0) ∧ (∀ c, nx (toF l) len = some c → r_X8_nextOrder E (iI (len : Int)) = 1 ∧ ∀ i, i < len → (w_X8_nextOrder E (iI (len : Int))).1 614 i = iI ((c i : Nat) : Int)) ∧ Fq Qz D (w_X8_nextOrder E (iI (len : Int))) := by
  have hc := hI.1
  obtain ⟨g1, g2, g3⟩ := gd1_u hl
  have ho : ∀ i, i < len → ((toF l i : Nat) : Int) < T 0 2 ∧ S 2 (toF l i) = 0 := fun i hi => by
    obtain ⟨a, c⟩ := (oMask_bit S (T 0 2).toNat (toF l i)).mp (g2 i hi).2
    exact ⟨by omega, c⟩
  have a8 : ∀ i, i < len → toF l i < 8 := fun i hi => by have := (g2 i hi).1; omega
  have one0 : ¬ (1 : Int32) = 0 := by decide
  obtain ⟨w1, w2⟩ := vis_r (T := T) (S := S) (b := b) (l := l) (fun i hi => (ho i (by omega)).2) (fun i j h1 h2 => g3 i j h1 (by omega)) len 0 (by omega)
  rw [List.drop_zero, List.take_zero, g1] at w1 w2
  -- from a machine with the record written, on to the next order
  have fin : ∀ (E : Mm) (b' : Bt), RB E b' len → (∀ i, i < len → E.1 614 i = iI ((toF l i : Nat) : Int)) → Fq Qz D E → p_X8_nextOrder E (iI (len : Int)) ∧ RB (w_X8_nextOrder E (iI (len : Int))) b' len ∧ (nx (toF l) len = none → r_X8_nextOrder E (iI (len : Int)) = 0) ∧ (∀ c, nx (toF l) len = some c → r_X8_nextOrder E (iI (len : Int)) = 1 ∧ ∀ i, i < len → (w_X8_nextOrder E (iI (len : Int))).1 614 i = iI ((c i : Nat) : Int)) ∧ Fq Qz D (w_X8_nextOrder E (iI (len : Int))) := fun E b' e1 e2 e3 => by
    obtain ⟨n1, n2, n3⟩ := r_nextO (M := E) (a := toF l) l6 a8 e2
    have F : Fq (fun a k => a = 614 ∧ k < len) E (w_X8_nextOrder E (iI (len : Int))) := by
      cases hx : nx (toF l) len with
      | none => rw [(n2 hx).2]; exact Fq.rf
      | some c => exact (n3 c hx).2.2
    obtain ⟨⟨b1, b2, b3⟩, b4, b5⟩ := e1
    refine ⟨n1, ⟨⟨by rw [F.1 _ _ (by omega)]; exact b1, by rw [F.1 _ _ (by omega)]; exact b2, by rw [F.1 _ _ (by omega)]; exact b3⟩, fun h i hi => by rw [F.1 _ _ (by omega)]; exact b4 h i hi, b5⟩, fun h => (n2 h).1, fun c h => ⟨(n3 c h).1, (n3 c h).2.1⟩, e3.tr (F.mono (fun a k h => by omega))⟩
  obtain ⟨al1, al2, al3⟩ := r_allow hT ha hS hI hJ (ord := toF l) l6 (fun i hi => ⟨(ho i hi).1, h14 i hi⟩)
  unfold q_X8_findBest_23 s_X8_findBest_23
  dsimp only
  rw [if_neg one0, if_neg one0]
  by_cases c : ∀ i, i < len → okA T S (toF l) i
  · rw [al2 c]
    rw [if_neg one0, if_neg one0]
    have ev : vis T b l (S, 0, 0) [] = bUp b (xR T S (toF l) len) l := w1 (fun i _ h => c i h)
    rw [ev]
    obtain ⟨v1, va, v2, v3, v4, -, F4⟩ := r_run hT hS hI hJ hm (ord := toF l) (len := len) (calls := 0) l6 (by omega) (fun i hi => ⟨(ho i hi).1, h14 i hi⟩) g3
    change p_X8_goesThrough D (iI (len : Int)) 0 at v1
    change RA (w_X8_goesThrough D (iI (len : Int)) 0) 22 at va
    change RS (w_X8_goesThrough D (iI (len : Int)) 0) 22 T _ at v2
    change (w_X8_goesThrough D (iI (len : Int)) 0).1 600 31 = _ at v3
    change (w_X8_goesThrough D (iI (len : Int)) 0).1 600 32 = _ at v4
    change Fq _ D (w_X8_goesThrough D (iI (len : Int)) 0) at F4
    have sb := aSum_b (S := S) hI (ord := toF l) 0 len (fun i hi => (ho i hi).1)
    have iv := InvS.run hI hJ (by omega) (ord := toF l) 0 len l6 (fun i hi => (ho i hi).1)
    generalize w_X8_goesThrough D (iI (len : Int)) 0 = X at va v2 v3 v4 F4 ⊢
    have n21 : Int32.toNatClampNeg (iI 22 + 21) = 22 + 21 := by decide
    have v21 : vp_in (iI 22 + 21) 44 := by rw [cl21, iI_add]; exact vin_iI (by omega) (by omega) (by omega)
    have x10 : X.1 600 10 = iI 22 := va.1
    have x21 : X.1 607 (22 + 21) = iI (aRun T S (toF l) 0 len 4 0) := v2.2.2.2.2
    rw [x10, n21, x21]
    have FX : Fq Qz D (wi X 600 10 0) := fq_at0 (F4.mono (fun a k h => by omega)) ha.1
    obtain ⟨⟨b1, b2, b3⟩, b4, b5, b6, b7⟩ := hB
    have y31 : (wi X 600 10 0).1 600 31 = iI (aSum T S (toF l) 0 len) := by rw [rd_ne (Or.inr (by omega))]; exact v3
    have y32 : (wi X 600 10 0).1 600 32 = iI (aBad T S (toF l) 0 len) := by rw [rd_ne (Or.inr (by omega))]; exact v4
    have y35 : (wi X 600 10 0).1 600 35 = iI b.1 := by rw [rd_ne (Or.inr (by omega)), F4.1 _ _ (by omega)]; exact b1
    have y36 : (wi X 600 10 0).1 600 36 = iI b.2.2.1 := by rw [rd_ne (Or.inr (by omega)), F4.1 _ _ (by omega)]; exact b2
    have y37 : (wi X 600 10 0).1 600 37 = iI b.2.2.2 := by rw [rd_ne (Or.inr (by omega)), F4.1 _ _ (by omega)]; exact b3
    have y14 : ∀ i, i < len → (wi X 600 10 0).1 614 i = iI ((toF l i : Nat) : Int) := fun i hi => by rw [rd_ne (Or.inl (by omega)), F4.1 _ _ (by omega)]; exact h14 i hi
    have y15 : 0 ≤ b.1 → ∀ i, i < len → (wi X 600 10 0).1 615 i = iI ((toF b.2.1 i : Nat) : Int) := fun h i hi => by rw [rd_ne (Or.inl (by omega)), F4.1 _ _ (by omega)]; exact b4 h i hi
    have m4 := iv.2.2.2.2.1
    generalize wi X 600 10 0 = Y at FX y31 y32 y35 y36 y37 y14 y15 ⊢
    rw [y31, y35]
    have ku : (iI (aSum T S (toF l) 0 len) ≤ iI b.1) ↔ aSum T S (toF l) 0 len ≤ b.1 := by rw [iI_le (by omega) (by omega) (by omega) (by omega)]
    by_cases d : aSum T S (toF l) 0 len ≤ b.1
    · rw [if_pos (ku.mpr d), if_pos (ku.mpr d)]
      obtain ⟨z1, z2⟩ := r_107 (D := Y) (x1 := iI (len : Int)) (y2 := 1) (mi := aRun T S (toF l) 0 len 4 0) y36 y32 y37 b6 (by omega) b7 (by omega)
      rw [z1]
      obtain ⟨f1, f2, f3, f4, f5⟩ := fin (wi (wi Y 600 36 (iI (if b.2.2.1 ≤ aBad T S (toF l) 0 len then b.2.2.1 else aBad T S (toF l) 0 len))) 600 37 (iI (if b.2.2.2 < 0 then aRun T S (toF l) 0 len 4 0 else if b.2.2.2 ≤ aRun T S (toF l) 0 len 4 0 then b.2.2.2 else aRun T S (toF l) 0 len 4 0))) (bUp b (xR T S (toF l) len) l) (by
        have e1 : (bUp b (xR T S (toF l) len) l).1 = b.1 := if_pos d
        have e2 : (bUp b (xR T S (toF l) len) l).2.1 = b.2.1 := if_pos d
        refine ⟨⟨?_, ?_, ?_⟩, fun h i hi => ?_, ?_, ?_, ?_⟩
        · rw [rd_ne (Or.inr (by omega)), rd_ne (Or.inr (by omega)), e1]; exact y35
        · rw [rd_ne (Or.inr (by omega)), rd_same]; rfl
        · rw [rd_same]; rfl
        · rw [rd_ne (Or.inl (by omega)), rd_ne (Or.inl (by omega)), e2]; rw [e1] at h; exact y15 h i hi
        · rw [e1]; exact b5
        · show 0 ≤ (if b.2.2.1 ≤ aBad T S (toF l) 0 len then b.2.2.1 else aBad T S (toF l) 0 len) ∧ (if b.2.2.1 ≤ aBad T S (toF l) 0 len then b.2.2.1 else aBad T S (toF l) 0 len) ≤ 99
          split <;> omega
        · show -1 ≤ (if b.2.2.2 < 0 then aRun T S (toF l) 0 len 4 0 else if b.2.2.2 ≤ aRun T S (toF l) 0 len 4 0 then b.2.2.2 else aRun T S (toF l) 0 len 4 0) ∧ (if b.2.2.2 < 0 then aRun T S (toF l) 0 len 4 0 else if b.2.2.2 ≤ aRun T S (toF l) 0 len 4 0 then b.2.2.2 else aRun T S (toF l) 0 len 4 0) ≤ 1000000
          split
          · omega
          · split <;> omega) (fun i hi => by rw [rd_ne (Or.inl (by omega)), rd_ne (Or.inl (by omega))]; exact y14 i hi) (Fq.wi (Fq.wi FX (by omega)) (by omega))
      exact ⟨⟨al1, v1, v21, z2 ⟨f1, trivial⟩⟩, _, f2, rfl, f3, f4, f5⟩
    · have gu : ¬ iI (aSum T S (toF l) 0 len) ≤ iI b.1 := fun u => d (ku.mp u)
      rw [if_neg gu, if_neg gu]
      obtain ⟨Z, hZ⟩ : ∃ Z, Z = wi Y 600 35 (iI (aSum T S (toF l) 0 len)) := ⟨_, rfl⟩
      rw [← hZ]
      have nl : Int32.toNatClampNeg (iI (len : Int)) = len := natk rfl (by omega)
      rw [nl]
      obtain ⟨t1, t2, t3, t4⟩ := r_copy5 (D := Z) (len := len) 1 (iI (aRun T S (toF l) 0 len 4 0)) l6
      rw [t4] at t3 ⊢
      dsimp only
      have gl : iI (len : Int) ≤ iI (len : Int) := Int32.le_refl _
      rw [if_pos gl, if_pos gl]
      have q35 : (runI Z 615 0 len (fun j => Z.1 614 j)).1 600 35 = iI (aSum T S (toF l) 0 len) := by rw [runI_n (Or.inl (by omega)), hZ, rd_same]
      have q36 : (runI Z 615 0 len (fun j => Z.1 614 j)).1 600 36 = iI b.2.2.1 := by rw [runI_n (Or.inl (by omega)), hZ, rd_ne (Or.inr (by omega))]; exact y36
      have q37 : (runI Z 615 0 len (fun j => Z.1 614 j)).1 600 37 = iI b.2.2.2 := by rw [runI_n (Or.inl (by omega)), hZ, rd_ne (Or.inr (by omega))]; exact y37
      have q32 : (runI Z 615 0 len (fun j => Z.1 614 j)).1 600 32 = iI (aBad T S (toF l) 0 len) := by rw [runI_n (Or.inl (by omega)), hZ, rd_ne (Or.inr (by omega))]; exact y32
      have q14 : ∀ i, i < len → (runI Z 615 0 len (fun j => Z.1 614 j)).1 614 i = iI ((toF l i : Nat) : Int) := fun i hi => by rw [runI_n (Or.inl (by omega)), hZ, rd_ne (Or.inl (by omega))]; exact y14 i hi
      have q15 : ∀ i, i < len → (runI Z 615 0 len (fun j => Z.1 614 j)).1 615 i = iI ((toF l i : Nat) : Int) := fun i hi => by
        rw [runI_y (by omega) (by omega)]
        show Z.1 614 (i - 0) = _
        rw [Nat.sub_zero, hZ, rd_ne (Or.inl (by omega))]; exact y14 i hi
      have FZ : Fq Qz D (runI Z 615 0 len (fun j => Z.1 614 j)) := Fq.run (by rw [hZ]; exact Fq.wi FX (by omega)) (fun k h1 h2 => by omega)
      generalize runI Z 615 0 len (fun j => Z.1 614 j) = V at t3 t4 q35 q36 q37 q32 q14 q15 FZ ⊢
      obtain ⟨z1, z2⟩ := r_107 (D := V) (x1 := iI (len : Int)) (y2 := 1) (mi := aRun T S (toF l) 0 len 4 0) q36 q32 q37 b6 (by omega) b7 (by omega)
      rw [z1]
      obtain ⟨f1, f2, f3, f4, f5⟩ := fin (wi (wi V 600 36 (iI (if b.2.2.1 ≤ aBad T S (toF l) 0 len then b.2.2.1 else aBad T S (toF l) 0 len))) 600 37 (iI (if b.2.2.2 < 0 then aRun T S (toF l) 0 len 4 0 else if b.2.2.2 ≤ aRun T S (toF l) 0 len 4 0 then b.2.2.2 else aRun T S (toF l) 0 len 4 0))) (bUp b (xR T S (toF l) len) l) (by
        have e1 : (bUp b (xR T S (toF l) len) l).1 = aSum T S (toF l) 0 len := if_neg d
        have e2 : (bUp b (xR T S (toF l) len) l).2.1 = l := if_neg d
        refine ⟨⟨?_, ?_, ?_⟩, fun h i hi => ?_, ?_, ?_, ?_⟩
        · rw [rd_ne (Or.inr (by omega)), rd_ne (Or.inr (by omega)), e1]; exact q35
        · rw [rd_ne (Or.inr (by omega)), rd_same]; rfl
        · rw [rd_same]; rfl
        · rw [rd_ne (Or.inl (by omega)), rd_ne (Or.inl (by omega)), e2]; exact q15 i hi
        · rw [e1]; omega
        · show 0 ≤ (if b.2.2.1 ≤ aBad T S (toF l) 0 len then b.2.2.1 else aBad T S (toF l) 0 len) ∧ (if b.2.2.1 ≤ aBad T S (toF l) 0 len then b.2.2.1 else aBad T S (toF l) 0 len) ≤ 99
          split <;> omega
        · show -1 ≤ (if b.2.2.2 < 0 then aRun T S (toF l) 0 len 4 0 else if b.2.2.2 ≤ aRun T S (toF l) 0 len 4 0 then b.2.2.2 else aRun T S (toF l) 0 len 4 0) ∧ (if b.2.2.2 < 0 then aRun T S (toF l) 0 len 4 0 else if b.2.2.2 ≤ aRun T S (toF l) 0 len 4 0 then b.2.2.2 else aRun T S (toF l) 0 len 4 0) ≤ 1000000
          split
          · omega
          · split <;> omega) (fun i hi => by rw [rd_ne (Or.inl (by omega)), rd_ne (Or.inl (by omega))]; exact q14 i hi) (Fq.wi (Fq.wi FZ (by omega)) (by omega))
      exact ⟨⟨al1, v1, v21, t1, t2, t3, z2 ⟨f1, trivial⟩⟩, _, f2, rfl, f3, f4, f5⟩
  · rw [al3 c]
    have e0 : (0 : Int32) = 0 := rfl
    rw [if_pos e0, if_pos e0]
    have ev : vis T b l (S, 0, 0) [] = b := w2 (fun u => c (fun i hi => u i (by omega) hi))
    rw [ev]
    obtain ⟨f1, f2, f3, f4, f5⟩ := fin D b hB h14 Fq.rf
    exact ⟨⟨al1, f1, trivial⟩, D, f2, rfl, f3, f4, f5⟩
end P81
