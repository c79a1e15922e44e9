/-! texts: the rules for their cells, the JDK's methods over them, Tape.isWord -/
def sxN (i : Nat) : Nat := (om_sx.map fun q => q.2.2.length).getD i 0
def sxB (i j : Nat) : Int32 := ((om_sx.map fun q => q.2.2).getD i []).getD j 0
theorem sxN_le : ∀ i, i < 17 → (Int32.ofNat (sxN i)).toInt = (sxN i : Int) ∧ sxN i ≤ 6 ∧ Int32.ofNat (sxN i) >>> ((0 : Int32) &&& 31) = Int32.ofNat (sxN i) ∧ 0 < sxN i := by decide +kernel
theorem sxB_ok : ∀ i, i < 17 → ∀ j, j < 6 → ((sxB i j &&& 255).toUInt32 % 65536).toInt32 = sxB i j := by decide +kernel
theorem sxB_nar {i j : Nat} (hi : i < 17) (hj : j < 6) : narrow .char (.int (sxB i j)) = .int (sxB i j) := by
  have h : ∀ i, i < 17 → ∀ j, j < 6 → ((sxB i j).toUInt32 % 65536).toInt32 = sxB i j := by decide +kernel
  show Value.int (((sxB i j).toUInt32 % 65536).toInt32) = Value.int (sxB i j)
  rw [h i hi j hj]
section JT
variable {own : Nat} {bytes : ByteArray} {mL d : Nat} {J : Nat → Lc → List Value → Mm → Prop} {mi : Mi} {idx n b : Nat} {As rest : List Value} {M M1 : Mm} {rv : Option Value} {pc : Nat} {L : Lc} {st : List Value}
theorem j_callT (g : Good own bytes mL (d + 1) J) {i : Nat} (hM : Rn d mi (.ref (800 + i) :: As) M rv M1) (hc : CV own idx mi n) (hi : i < 17) (hcls : mi.2.1.cls = "java/lang/String") (hn : As.length = n) (hW : (rest.map fun v => v.category).sum ≤ 8) (hd : decode bytes pc = .ok (.invokevirtual idx, 3)) (k : J (pc + 3) L (rv.toList ++ rest) M1) : J pc L (As.reverse ++ .ref (800 + i) :: rest) M := by
  obtain ⟨p, l, e, R, s, m, args, below, meth, c, cells, slots, Z, D, r, cA, A, ⟨hx, hb, hml, hown, hts, hK, hE, hD, hRf, hRl, hRc, hRs⟩, rfl⟩ := g
  intro H locs ls hP hS hl
  obtain ⟨w1, w2, w3, w4, w5, w6, w7, w8, w9⟩ := hc
  have hAin : ∀ q, om_A r q → A q := om_A_in (hD (M := M))
  have hrecv := vk_recv hE.2.2.2.1 hi hS
  rw [← hcls] at hrecv
  have hgood : GoodIn BIG (wsV (om_own own) idx mi.2.1.cls mi.2.1 (Cond.code mi.2.1 mi.2.2.1 mi.2.2.2.1 mi.2.2.2.2 :: BIG)) := by
    apply om_good
    intro w hw
    unfold wsV at hw
    simp only [List.mem_append, List.mem_cons, List.not_mem_nil, or_false] at hw
    rcases hw with (rfl | rfl | rfl | rfl) | rfl | hw
    · exact w1
    · exact w2
    · exact w3
    · exact w4
    · exact w5
    · exact hw
  have hrun := va_runV (p := p) (l := l) (e := e) (R := R) (s := s) (m := m) (args := args) (below := below) (meth := meth) (c := c) (H := H) (locs := locs) (cells := cells) (slots := slots) (cc := bytes) (nL := mL) (Ts := BIG) (own := om_own own) (index := idx) (C := mi.2.1.cls) (b := r (800 + i)) (As := As.map (om_cv r)) (rest := rest.map (om_cv r)) (g := F0 m pc ls ((As.reverse ++ .ref (800 + i) :: rest).map (om_cv r)))
    ⟨hx, hb, hml, hown, hts⟩ (hM l D r cA) (cwV n hts hgood rfl rfl rfl ⟨rfl, w6, w7, w8⟩ ⟨by show d + 1 ≤ R.frames; omega, by show 8 + (mi.2.2.2.1 + 11) + 64 * d ≤ R.locals; omega⟩)
    ⟨om_blind, hrecv, fun U hU hWm => ⟨by rfl, by rw [hU]; exact hP, va_K.moved hWm.alike hK, om_D_self (hD (M := M)), hE.to hAin (fun a h1 h2 => by rw [hU]; exact hS.2.1 a h1 h2) hWm⟩⟩
    rfl (by rw [List.length_map]; exact hn) hl.1 (by simp [om_cv]) (lv_room (by rw [om_cats]; exact hW)) hd ⟨by simpa using hRc, by simpa using hRs⟩
  intro T hT X
  obtain ⟨v, st₀, t, T', L2, h0, X', hL, e1, e2, ⟨⟨hv, hp1⟩, hz, hk⟩, st⟩ := hrun T hT X
  rw [h0] at hz hk
  have hv2 : v = rv.map (om_cv r) := by injection hv
  subst hv2
  obtain ⟨t2, a1, b1⟩ := k T'.heap (locs ++ L2) ls (by rw [e1]; exact hp1)
    ⟨Nat.le_trans hS.1 (by rw [e1]; exact hz), fun q h1 h2 => by rw [e1, hk q (Nat.lt_of_lt_of_le h1 hS.1) (fun z => h2 (hAin q z))]; exact hS.2.1 q h1 h2, fun q hq => by
      rcases List.mem_append.mp hq with h | h
      · exact hS.2.2 q h
      · exact hAin _ (hL q h)⟩ hl T' rfl X'
  refine ⟨t2, st t2 ?_, b1⟩
  have es : (rv.map (om_cv r)).toList ++ rest.map (om_cv r) = (rv.toList ++ rest).map (om_cv r) := by cases rv <;> simp
  rw [es]
  exact a1
theorem j_cT0r (g : Good own bytes mL (d + 1) J) {i : Nat} {v : Value} (hc : CV own idx mi 0) (hi : i < 17) (hcls : mi.2.1.cls = "java/lang/String") (hd : decode bytes pc = .ok (.invokevirtual idx, 3)) (hW : (rest.map fun v => v.category).sum ≤ 8) (hM : Rn d mi (.ref (800 + i) :: []) M (some v) M1) (k : J (pc + 3) L (v :: rest) M1) : J pc L (.ref (800 + i) :: rest) M := j_callT (As := []) g hM hc hi hcls rfl hW hd k
theorem j_cT1r (g : Good own bytes mL (d + 1) J) {i : Nat} {a1 v : Value} (hc : CV own idx mi 1) (hi : i < 17) (hcls : mi.2.1.cls = "java/lang/String") (hd : decode bytes pc = .ok (.invokevirtual idx, 3)) (hW : (rest.map fun v => v.category).sum ≤ 8) (hM : Rn d mi (.ref (800 + i) :: [a1]) M (some v) M1) (k : J (pc + 3) L (v :: rest) M1) : J pc L (a1 :: .ref (800 + i) :: rest) M := j_callT (As := [a1]) g hM hc hi hcls rfl hW hd k
theorem j_ldcT (g : Good 4 bytes mL d J) (i : Nat) {n : Nat} {tx : String} {bs : List Int32} (hq : om_sx[i]? = some (n, tx, bs)) (hd : decode bytes pc = .ok (.ldc n, 2)) (k : J (pc + 2) L (.ref (800 + i) :: st) M) : J pc L st M := by
  obtain ⟨p, l, e, R, s, m, args, below, meth, c, cells, slots, Z, D, r, cA, A, ⟨hx, hb, hml, hown, hts, hK, hE, hD, hRf, hRl, hRc, hRs⟩, rfl⟩ := g
  intro H locs ls hP hS hl
  exact va_ldcS hx hb hown (hE.2.2.2.2.1 i _ hq) hd (k H locs ls hP hS hl)
theorem j_gTv (g : Good 10 bytes mL d J) {i : Nat} (hi : i < 17) (hd : decode bytes pc = .ok (.getfield 9, 3)) (k : J (pc + 3) L (.ref (830 + i) :: st) M) : J pc L (.ref (800 + i) :: st) M := by
  obtain ⟨p, l, e, R, s, m, args, below, meth, c, cells, slots, Z, D, r, cA, A, ⟨hx, hb, hml, hown, hts, hK, hE, hD, hRf, hRl, hRc, hRs⟩, rfl⟩ := g
  intro H locs ls hP hS hl
  exact vk_getf hx hb (hE.2.2.2.1.1 i hi).2.2.1 hS hown (hts (.fieldLink RJ0 9 "java/lang/String" "value" "[B") (big_mem 1709 (by decide +kernel) (by decide +kernel))) (fun _ h => h) hd (k H locs ls hP hS hl)
theorem j_gTc (g : Good 10 bytes mL d J) {i : Nat} (hi : i < 17) (hd : decode bytes pc = .ok (.getfield 15, 3)) (k : J (pc + 3) L (.int 0 :: st) M) : J pc L (.ref (800 + i) :: st) M := by
  obtain ⟨p, l, e, R, s, m, args, below, meth, c, cells, slots, Z, D, r, cA, A, ⟨hx, hb, hml, hown, hts, hK, hE, hD, hRf, hRl, hRc, hRs⟩, rfl⟩ := g
  intro H locs ls hP hS hl
  exact vk_getf hx hb (hE.2.2.2.1.1 i hi).2.1 hS hown (hts (.fieldLink RJ0 15 "java/lang/String" "coder" "B") (big_mem 1710 (by decide +kernel) (by decide +kernel))) (fun _ h => h) hd (k H locs ls hP hS hl)
theorem j_lenT (g : Good own bytes mL d J) {i : Nat} (hi : i < 17) (hd : decode bytes pc = .ok (.arraylength, 1)) (k : J (pc + 1) L (.int (Int32.ofNat (sxN i)) :: st) M) : J pc L (.ref (830 + i) :: st) M := by
  obtain ⟨p, l, e, R, s, m, args, below, meth, c, cells, slots, Z, D, r, cA, A, ⟨hx, hb, hml, hown, hts, hK, hE, hD, hRf, hRl, hRc, hRs⟩, rfl⟩ := g
  intro H locs ls hP hS hl
  exact va_tlen hx hb (hE.2.2.2.1.1 i hi).2.2.2 hS rfl hd (k H locs ls hP hS hl)
theorem j_baT (g : Good own bytes mL d J) {i : Nat} {k : Int32} (hi : i < 17) (hk : vp_in k (sxN i)) (hd : decode bytes pc = .ok (.baload, 1)) (kk : J (pc + 1) L (.int (sxB i k.toNatClampNeg) :: st) M) : J pc L (.int k :: .ref (830 + i) :: st) M := by
  obtain ⟨p, l, e, R, s, m, args, below, meth, c, cells, slots, Z, D, r, cA, A, ⟨hx, hb, hml, hown, hts, hK, hE, hD, hRf, hRl, hRc, hRs⟩, rfl⟩ := g
  intro H locs ls hP hS hl
  exact va_tb hx hb (hE.2.2.2.1.1 i hi).2.2.2 hS hk rfl hd (kk H locs ls hP hS hl)
theorem j_stC (g : Good 10 bytes mL d J) (hd : decode bytes pc = .ok (.getstatic 38, 3)) (k : J (pc + 3) L (.int 1 :: st) M) : J pc L st M := by
  obtain ⟨p, l, e, R, s, m, args, below, meth, c, cells, slots, Z, D, r, cA, A, ⟨hx, hb, hml, hown, hts, hK, hE, hD, hRf, hRl, hRc, hRs⟩, rfl⟩ := g
  intro H locs ls hP hS hl
  exact va_gets hx hb hE.2.2.2.2.2.1 hS hown (hts (.fieldLink RJ0 38 "java/lang/String" "COMPACT_STRINGS" "Z") (big_mem 488 (by decide +kernel) (by decide +kernel))) (fun _ h => h) hd (k H locs ls hP hS hl)
theorem j_stF (g : Good 10 bytes mL d J) (hd : decode bytes pc = .ok (.getstatic 1053, 3)) (k : ∀ v : Value, v = .null ∨ v = .ref 702 → J (pc + 3) L (v :: st) M) : J pc L st M := by
  obtain ⟨p, l, e, R, s, m, args, below, meth, c, cells, slots, Z, D, r, cA, A, ⟨hx, hb, hml, hown, hts, hK, hE, hD, hRf, hRl, hRc, hRs⟩, rfl⟩ := g
  intro H locs ls hP hS hl
  rcases hE.2.2.2.2.2.2 with h | h
  · exact va_gets hx hb h hS hown (hts (.fieldLink RJ0 1053 "jdk/internal/util/Preconditions" "SIOOBE_FORMATTER" "Ljava/util/function/BiFunction;") (big_mem 504 (by decide +kernel) (by decide +kernel))) (fun _ h => h) hd (k .null (Or.inl rfl) H locs ls hP hS hl)
  · exact va_gets hx hb h hS hown (hts (.fieldLink RJ0 1053 "jdk/internal/util/Preconditions" "SIOOBE_FORMATTER" "Ljava/util/function/BiFunction;") (big_mem 504 (by decide +kernel) (by decide +kernel))) (fun _ h => h) hd (k (.ref 702) (Or.inr rfl) H locs ls hP hS hl)
theorem j_i2c (g : Good own bytes mL d J) {x : Int32} (v : Int32) (hd : decode bytes pc = .ok (.i2c, 1)) (hv : (x.toUInt32 % 65536).toInt32 = v) (k : J (pc + 1) L (.int v :: st) M) : J pc L (.int x :: st) M := by
  obtain ⟨p, l, e, R, s, m, args, below, meth, c, cells, slots, Z, D, r, cA, A, ⟨hx, hb, hml, hown, hts, hK, hE, hD, hRf, hRl, hRc, hRs⟩, rfl⟩ := g
  intro H locs ls hP hS hl
  exact lv_i2c hx hb hd hv (k H locs ls hP hS hl)
end JT
theorem rnJ3_checkIndex {d : Nat} {M : Mm} {i n : Int32} {v : Value} (hv : v = .null ∨ v = .ref 702) (h0 : 0 ≤ i) (h1 : i < n) : Rn d mJ3_checkIndex_8e157 [.int i, .int n, v] M (some (.int i)) M := by
  rcases hv with rfl | rfl
  · refine Rn.of [some (.int i), some (.int n), some .null] (by decide +kernel) rfl (Nat.le_of_ble_eq_true rfl) rfl (fun J g hr => ?_)
    refine j_iload_n g (i := 0) (by decide +kernel) rfl ?_
    refine j_if_lt g (off := 8) (tgt := 9) (by decide +kernel) (by decide) (fun c1 => absurd c1 (Int32.not_lt.mpr h0)) (fun c1 => ?_)
    refine j_iload_n g (i := 0) (by decide +kernel) rfl ?_
    refine j_iload_n g (i := 1) (by decide +kernel) rfl ?_
    refine j_icmp_lt g (off := 10) (tgt := 16) (by decide +kernel) (by decide) (fun c6 => ?_) (fun c6 => absurd h1 c6)
    refine j_iload_n g (i := 0) (by decide +kernel) rfl ?_
    refine hr.1 _ _ _ _ (by decide +kernel) ⟨_, rfl, rfl⟩ rfl rfl
  · refine Rn.of [some (.int i), some (.int n), some (.ref 702)] (by decide +kernel) rfl (Nat.le_of_ble_eq_true rfl) rfl (fun J g hr => ?_)
    refine j_iload_n g (i := 0) (by decide +kernel) rfl ?_
    refine j_if_lt g (off := 8) (tgt := 9) (by decide +kernel) (by decide) (fun c1 => absurd c1 (Int32.not_lt.mpr h0)) (fun c1 => ?_)
    refine j_iload_n g (i := 0) (by decide +kernel) rfl ?_
    refine j_iload_n g (i := 1) (by decide +kernel) rfl ?_
    refine j_icmp_lt g (off := 10) (tgt := 16) (by decide +kernel) (by decide) (fun c6 => ?_) (fun c6 => absurd h1 c6)
    refine j_iload_n g (i := 0) (by decide +kernel) rfl ?_
    refine hr.1 _ _ _ _ (by decide +kernel) ⟨_, rfl, rfl⟩ rfl rfl
theorem rnJ0_checkIndex {d : Nat} {M : Mm} {i n : Int32} (h0 : 0 ≤ i) (h1 : i < n) : Rn (d + 1) mJ0_checkIndex_df160 [.int i, .int n] M none M := by
  refine Rn.of [some (.int i), some (.int n)] (by decide +kernel) rfl (Nat.le_of_ble_eq_true rfl) rfl (fun J g hr => ?_)
  refine j_iload_n g (i := 0) (by decide +kernel) rfl ?_
  refine j_iload_n g (i := 1) (by decide +kernel) rfl ?_
  refine j_stF g (by decide +kernel) (fun v hv => ?_)
  refine j_cS3r g s10_1059 (by decide +kernel) (Nat.le_of_ble_eq_true rfl) (rnJ3_checkIndex hv h0 h1) ?_
  refine j_pop g (by decide +kernel) rfl ?_
  exact hr.2.2.2 _ _ _ (by decide +kernel) rfl rfl rfl
theorem rnJ1_charAt {d : Nat} {M : Mm} {i : Nat} {k : Int32} (hi : i < 17) (h0 : 0 ≤ k) (h1 : k < Int32.ofNat (sxN i)) : Rn (d + 2) mJ1_charAt_3b067 [.ref (830 + i), .int k] M (some (.int (sxB i k.toNatClampNeg))) M := by
  obtain ⟨q1, q2, q3, q4⟩ := sxN_le i hi
  have hin : vp_in k (sxN i) := vin_of h0 h1 (by omega)
  have hlt : k.toNatClampNeg < 6 := by have := (vin_iff.mp hin).2; omega
  refine Rn.of [some (.ref (830 + i)), some (.int k)] (by decide +kernel) rfl (Nat.le_of_ble_eq_true rfl) rfl (fun J g hr => ?_)
  refine j_iload_n g (i := 1) (by decide +kernel) rfl ?_
  refine j_aload_n g (i := 0) (by decide +kernel) rfl ?_
  refine j_lenT g hi (by decide +kernel) ?_
  refine j_cS2v g s11_9 (by decide +kernel) (Nat.le_of_ble_eq_true rfl) (rnJ0_checkIndex h0 h1) ?_
  refine j_aload_n g (i := 0) (by decide +kernel) rfl ?_
  refine j_iload_n g (i := 1) (by decide +kernel) rfl ?_
  refine j_baT g hi hin (by decide +kernel) ?_
  refine j_sipush g (n := 255) (255) (by decide +kernel) (by decide +kernel) ?_
  refine j_iand g (by decide +kernel) ?_
  refine j_i2c g (sxB i k.toNatClampNeg) (by decide +kernel) (sxB_ok i hi _ hlt) ?_
  exact hr.1 _ _ _ _ (by decide +kernel) ⟨_, rfl, sxB_nar hi hlt⟩ rfl rfl
theorem rnJ0_isLatin1 {d : Nat} {M : Mm} {i : Nat} (hi : i < 17) : Rn d mJ0_isLatin1_aae02 [.ref (800 + i)] M (some (.int 1)) M := by
  refine Rn.of [some (.ref (800 + i))] (by decide +kernel) rfl (Nat.le_of_ble_eq_true rfl) rfl (fun J g hr => ?_)
  refine j_stC g (by decide +kernel) ?_
  refine j_if_eq g (off := 14) (tgt := 17) (by decide +kernel) (by decide) (fun c3 => absurd c3 (by decide)) (fun c3 => ?_)
  refine j_aload_n g (i := 0) (by decide +kernel) rfl ?_
  refine j_gTc g hi (by decide +kernel) ?_
  refine j_if_ne g (off := 7) (tgt := 17) (by decide +kernel) (by decide) (fun c10 => absurd rfl c10) (fun c10 => ?_)
  refine j_iconst g (n := 1) (1) (by decide +kernel) rfl ?_
  refine j_goto g (off := 4) (tgt := 18) (by decide +kernel) (by decide) ?_
  exact hr.1 _ _ _ _ (by decide +kernel) ⟨_, rfl, by decide +kernel⟩ rfl rfl
theorem rnJ0_coder {d : Nat} {M : Mm} {i : Nat} (hi : i < 17) : Rn d mJ0_coder_7d493 [.ref (800 + i)] M (some (.int 0)) M := by
  refine Rn.of [some (.ref (800 + i))] (by decide +kernel) rfl (Nat.le_of_ble_eq_true rfl) rfl (fun J g hr => ?_)
  refine j_stC g (by decide +kernel) ?_
  refine j_if_eq g (off := 10) (tgt := 13) (by decide +kernel) (by decide) (fun c3 => absurd c3 (by decide)) (fun c3 => ?_)
  refine j_aload_n g (i := 0) (by decide +kernel) rfl ?_
  refine j_gTc g hi (by decide +kernel) ?_
  refine j_goto g (off := 4) (tgt := 14) (by decide +kernel) (by decide) ?_
  exact hr.1 _ _ _ _ (by decide +kernel) ⟨_, rfl, by decide +kernel⟩ rfl rfl
theorem rnJ0_length {d : Nat} {M : Mm} {i : Nat} (hi : i < 17) : Rn (d + 1) mJ0_length_8abf5 [.ref (800 + i)] M (some (.int (Int32.ofNat (sxN i)))) M := by
  obtain ⟨q1, q2, q3, q4⟩ := sxN_le i hi
  refine Rn.of [some (.ref (800 + i))] (by decide +kernel) rfl (Nat.le_of_ble_eq_true rfl) rfl (fun J g hr => ?_)
  refine j_aload_n g (i := 0) (by decide +kernel) rfl ?_
  refine j_gTv g hi (by decide +kernel) ?_
  refine j_lenT g hi (by decide +kernel) ?_
  refine j_aload_n g (i := 0) (by decide +kernel) rfl ?_
  refine j_cT0r g v10_335 hi rfl (by decide +kernel) (Nat.le_of_ble_eq_true rfl) (rnJ0_coder hi) ?_
  refine j_ishr g (by decide +kernel) ?_
  rw [q3]
  exact hr.1 _ _ _ _ (by decide +kernel) ⟨_, rfl, rfl⟩ rfl rfl
theorem rnJ0_charAt {d : Nat} {M : Mm} {i : Nat} {k : Int32} (hi : i < 17) (h0 : 0 ≤ k) (h1 : k < Int32.ofNat (sxN i)) : Rn (d + 3) mJ0_charAt_5068e [.ref (800 + i), .int k] M (some (.int (sxB i k.toNatClampNeg))) M := by
  obtain ⟨q1, q2, q3, q4⟩ := sxN_le i hi
  have hin : vp_in k (sxN i) := vin_of h0 h1 (by omega)
  have hlt : k.toNatClampNeg < 6 := by have := (vin_iff.mp hin).2; omega
  refine Rn.of [some (.ref (800 + i)), some (.int k)] (by decide +kernel) rfl (Nat.le_of_ble_eq_true rfl) rfl (fun J g hr => ?_)
  refine j_aload_n g (i := 0) (by decide +kernel) rfl ?_
  refine j_cT0r g v10_492 hi rfl (by decide +kernel) (Nat.le_of_ble_eq_true rfl) (rnJ0_isLatin1 hi) ?_
  refine j_if_eq g (off := 12) (tgt := 16) (by decide +kernel) (by decide) (fun c4 => absurd c4 (by decide)) (fun c4 => ?_)
  refine j_aload_n g (i := 0) (by decide +kernel) rfl ?_
  refine j_gTv g hi (by decide +kernel) ?_
  refine j_iload_n g (i := 1) (by decide +kernel) rfl ?_
  refine j_cS2r g s10_495 (by decide +kernel) (Nat.le_of_ble_eq_true rfl) (rnJ1_charAt hi h0 h1) ?_
  exact hr.1 _ _ _ _ (by decide +kernel) ⟨_, rfl, sxB_nar hi hlt⟩ rfl rfl
/-- the token is the text i -/
def wordIs (M : Mm) (i : Nat) : Prop := ¬ M.1 500 2 = 0 ∧ M.1 500 4 - M.1 500 3 = Int32.ofNat (sxN i) ∧ ∀ k, k < sxN i → M.1 501 (Int32.toNatClampNeg (M.1 500 3 + Int32.ofNat k)) = sxB i k
noncomputable def r_X4_isWord (M : Mm) (i : Nat) : Int32 := @ite Int32 (wordIs M i) (Classical.propDecidable _) 1 0
def p_X4_isWord (M : Mm) (i : Nat) : Prop := ¬ M.1 500 2 = 0 → M.1 500 4 - M.1 500 3 = Int32.ofNat (sxN i) → ∀ k, k < sxN i → vp_in (M.1 500 3 + Int32.ofNat k) 240
theorem r_isWord_t {M : Mm} {i : Nat} (h : wordIs M i) : r_X4_isWord M i = 1 := by unfold r_X4_isWord; rw [if_pos h]
theorem r_isWord_f {M : Mm} {i : Nat} (h : ¬ wordIs M i) : r_X4_isWord M i = 0 := by unfold r_X4_isWord; rw [if_neg h]
theorem ofNat6 : ∀ k, k < 7 → (Int32.ofNat k).toNatClampNeg = k ∧ (Int32.ofNat k).toInt = (k : Int) ∧ 0 ≤ Int32.ofNat k ∧ Int32.ofNat k + 1 = Int32.ofNat (k + 1) := by decide +kernel
theorem isWord_loop {d : Nat} {M : Mm} {i : Nat} (hi : i < 17) (hp : p_X4_isWord M i) {J : Nat → Lc → List Value → Mm → Prop} (g : Good mX4_isWord.1 mX4_isWord.2.2.1 mX4_isWord.2.2.2.1 (d + 4) J) (hr : Ret mX4_isWord.2.2.1 mX4_isWord.2.2.2.2 (some (.int (r_X4_isWord M i))) M J) (hs : ¬ M.1 500 2 = 0) (hl : M.1 500 4 - M.1 500 3 = Int32.ofNat (sxN i)) :
    ∀ (m k : Nat), k + m = sxN i → (∀ j, j < k → M.1 501 (Int32.toNatClampNeg (M.1 500 3 + Int32.ofNat j)) = sxB i j) → J 27 [some (.ref 500), some (.ref (800 + i)), some (.int (Int32.ofNat k))] [] M := by
  obtain ⟨q1, q2, q3, q4⟩ := sxN_le i hi
  intro m
  induction m with
  | zero =>
    intro k hk hm
    have ek : k = sxN i := by omega
    subst ek
    refine j_iload_n g (i := 2) (by decide +kernel) rfl ?_
    refine j_aload_n g (i := 1) (by decide +kernel) rfl ?_
    refine j_cT0r g v4_42 hi rfl (by decide +kernel) (Nat.le_of_ble_eq_true rfl) (rnJ0_length hi) ?_
    refine j_icmp_ge g (off := 30) (tgt := 62) (by decide +kernel) (by decide) (fun c => ?_) (fun c => absurd (Int32.le_refl _) c)
    refine j_iconst g (n := 1) (1) (by decide +kernel) rfl ?_
    exact hr.1 _ _ _ _ (by decide +kernel) ⟨_, rfl, by decide +kernel⟩ (by rw [r_isWord_t ⟨hs, hl, hm⟩]) rfl
  | succ m ih =>
    intro k hk hm
    have hk7 : k < 7 := by omega
    obtain ⟨e1, e2, e3, e4⟩ := ofNat6 k hk7
    have hlt : Int32.ofNat k < Int32.ofNat (sxN i) := by rw [Int32.lt_iff_toInt_lt]; omega
    refine j_iload_n g (i := 2) (by decide +kernel) rfl ?_
    refine j_aload_n g (i := 1) (by decide +kernel) rfl ?_
    refine j_cT0r g v4_42 hi rfl (by decide +kernel) (Nat.le_of_ble_eq_true rfl) (rnJ0_length hi) ?_
    refine j_icmp_ge g (off := 30) (tgt := 62) (by decide +kernel) (by decide) (fun c => absurd hlt (Int32.not_lt.mpr c)) (fun c => ?_)
    refine j_aload_n g (i := 0) (by decide +kernel) rfl ?_
    refine j_gA g (b := 501) f4_11 (by decide +kernel) (by decide +kernel) (by decide +kernel) (by decide +kernel) ?_
    refine j_aload_n g (i := 0) (by decide +kernel) rfl ?_
    refine j_gI g f4_22 (by decide +kernel) (by decide +kernel) (by decide +kernel) ?_
    refine j_iload_n g (i := 2) (by decide +kernel) rfl ?_
    refine j_iadd g (by decide +kernel) ?_
    refine j_ba g 240 (by decide +kernel) (by decide +kernel) (by decide +kernel) (hp hs hl k (by omega)) ?_
    refine j_aload_n g (i := 1) (by decide +kernel) rfl ?_
    refine j_iload_n g (i := 2) (by decide +kernel) rfl ?_
    refine j_cT1r g v4_47 hi rfl (by decide +kernel) (Nat.le_of_ble_eq_true rfl) (rnJ0_charAt hi e3 hlt) ?_
    rw [e1]
    refine j_icmp_eq g (off := 5) (tgt := 56) (by decide +kernel) (by decide) (fun c => ?_) (fun c => ?_)
    · refine j_iinc g (i := 2) (n := 1) (1) (by decide +kernel) rfl (by decide) rfl ?_
      dsimp only [stL, clL, hdL]
      refine j_goto g (off := -32) (tgt := 27) (by decide +kernel) (by decide) ?_
      rw [e4]
      exact ih (k + 1) (by omega) (fun j hj => by
        rcases Nat.lt_succ_iff_lt_or_eq.mp hj with h | h
        · exact hm j h
        · rw [h]; exact c)
    · refine j_iconst g (n := 0) (0) (by decide +kernel) rfl ?_
      exact hr.1 _ _ _ _ (by decide +kernel) ⟨_, rfl, by decide +kernel⟩ (by rw [r_isWord_f (fun h => c (h.2.2 k (by omega)))]) rfl
theorem rnX4_isWord {d : Nat} {M : Mm} {i : Nat} (hi : i < 17) (hp : p_X4_isWord M i) : Rn (d + 4) mX4_isWord [.ref 500, .ref (800 + i)] M (some (.int (r_X4_isWord M i))) M := by
  obtain ⟨q1, q2, q3, q4⟩ := sxN_le i hi
  refine Rn.of [some (.ref 500), some (.ref (800 + i)), none] (by decide +kernel) rfl (Nat.le_of_ble_eq_true rfl) rfl (fun J g hr => ?_)
  refine j_aload_n g (i := 0) (by decide +kernel) rfl ?_
  refine j_gI g f4_19 (by decide +kernel) (by decide +kernel) (by decide +kernel) ?_
  refine j_if_eq g (off := 19) (tgt := 23) (by decide +kernel) (by decide) (fun c4 => ?_) (fun c4 => ?_)
  · refine j_iconst g (n := 0) (0) (by decide +kernel) rfl ?_
    exact hr.1 _ _ _ _ (by decide +kernel) ⟨_, rfl, by decide +kernel⟩ (by rw [r_isWord_f (fun h => h.1 c4)]) rfl
  · refine j_aload_n g (i := 0) (by decide +kernel) rfl ?_
    refine j_gI g f4_25 (by decide +kernel) (by decide +kernel) (by decide +kernel) ?_
    refine j_aload_n g (i := 0) (by decide +kernel) rfl ?_
    refine j_gI g f4_22 (by decide +kernel) (by decide +kernel) (by decide +kernel) ?_
    refine j_isub g (by decide +kernel) ?_
    refine j_aload_n g (i := 1) (by decide +kernel) rfl ?_
    refine j_cT0r g v4_42 hi rfl (by decide +kernel) (Nat.le_of_ble_eq_true rfl) (rnJ0_length hi) ?_
    refine j_icmp_eq g (off := 5) (tgt := 25) (by decide +kernel) (by decide) (fun c20 => ?_) (fun c20 => ?_)
    · refine j_iconst g (n := 0) (0) (by decide +kernel) rfl ?_
      refine j_istore_n g (i := 2) (by decide +kernel) (by decide) ?_
      dsimp only [stL, clL, hdL]
      exact isWord_loop hi hp g hr c4 c20 (sxN i) 0 (by omega) (fun j hj => by omega)
    · refine j_iconst g (n := 0) (0) (by decide +kernel) rfl ?_
      exact hr.1 _ _ _ _ (by decide +kernel) ⟨_, rfl, by decide +kernel⟩ (by rw [r_isWord_f (fun h => c20 h.2.1)]) rfl
noncomputable def w_X4_readWord_5 (M : Mm)  : Mm := if 0 ≤ (M.1 500 5) then (w_X4_fail M) else if (r_X4_isWord M 5) = 0 then (w_X4_fail M) else (w_X4_advance M)
def p_X4_readWord_5 (M : Mm)  : Prop := (if 0 ≤ (M.1 500 5) then True else (p_X4_isWord M 5) ∧ (if (r_X4_isWord M 5) = 0 then True else (p_X4_advance M ) ∧ True))
set_option maxRecDepth 20000 in
theorem rnX4_readWord_5 {d : Nat} {M : Mm}   (hp : p_X4_readWord_5 M ) : Rn (d + 5) mX4_readWord [.ref 500, .ref 805] M none (w_X4_readWord_5 M ) := by
  refine Rn.of [some (.ref 500), some (.ref 805)] (by decide +kernel) rfl (Nat.le_of_ble_eq_true rfl) rfl (fun J g hr => ?_)
  unfold p_X4_readWord_5 at hp
  refine j_aload_n g (i := 0) (by decide +kernel) rfl ?_
  refine j_gI g f4_28 (by decide +kernel) (by decide +kernel) (by decide +kernel) ?_
  refine j_if_ge g (off := 18) (tgt := 22) (by decide +kernel) (by decide) (fun c4 => ?_) (fun c4 => ?_)
  · rw [if_pos (show 0 ≤ (M.1 500 5) from c4)] at hp
    refine j_aload_n g (i := 0) (by decide +kernel) rfl ?_
    refine j_cV0v g v4_55 ⟨rfl, by decide⟩ (by decide +kernel) (by decide +kernel) (Nat.le_of_ble_eq_true rfl) (rnX4_fail) ?_
    refine hr.2.2.2 _ _ _ (by decide +kernel) rfl rfl ?_
    · unfold w_X4_readWord_5; first | (simp only [if_pos (show 0 ≤ (M.1 500 5) from c4)]; done) | (simp only [if_pos (show 0 ≤ (M.1 500 5) from c4)]; rfl) | rfl
  · rw [if_neg (show ¬ (0 ≤ (M.1 500 5)) from c4)] at hp
    refine j_aload_n g (i := 0) (by decide +kernel) rfl ?_
    refine j_aload_n g (i := 1) (by decide +kernel) rfl ?_
    obtain ⟨h0, hp⟩ := hp
    refine j_cV1r g v4_51 ⟨rfl, by decide⟩ (by decide +kernel) (by decide +kernel) (Nat.le_of_ble_eq_true rfl) (rnX4_isWord (i := 5) (by decide) h0) ?_
    refine j_if_eq g (off := 10) (tgt := 22) (by decide +kernel) (by decide) (fun c12 => ?_) (fun c12 => ?_)
    · rw [if_pos (show (r_X4_isWord M 5) = 0 from c12)] at hp
      refine j_aload_n g (i := 0) (by decide +kernel) rfl ?_
      refine j_cV0v g v4_55 ⟨rfl, by decide⟩ (by decide +kernel) (by decide +kernel) (Nat.le_of_ble_eq_true rfl) (rnX4_fail) ?_
      refine hr.2.2.2 _ _ _ (by decide +kernel) rfl rfl ?_
      · unfold w_X4_readWord_5; first | (simp only [if_neg (show ¬ (0 ≤ (M.1 500 5)) from c4), if_pos (show (r_X4_isWord M 5) = 0 from c12)]; done) | (simp only [if_neg (show ¬ (0 ≤ (M.1 500 5)) from c4), if_pos (show (r_X4_isWord M 5) = 0 from c12)]; rfl) | rfl
    · rw [if_neg (show ¬ ((r_X4_isWord M 5) = 0) from c12)] at hp
      refine j_aload_n g (i := 0) (by decide +kernel) rfl ?_
      obtain ⟨h0, hp⟩ := hp
      refine j_cV0v g v4_31 ⟨rfl, by decide⟩ (by decide +kernel) (by decide +kernel) (Nat.le_of_ble_eq_true rfl) (rnX4_advance h0) ?_
      refine j_goto g (off := 7) (tgt := 26) (by decide +kernel) (by decide) ?_
      refine hr.2.2.2 _ _ _ (by decide +kernel) rfl rfl ?_
      · unfold w_X4_readWord_5; first | (simp only [if_neg (show ¬ (0 ≤ (M.1 500 5)) from c4), if_neg (show ¬ ((r_X4_isWord M 5) = 0) from c12)]; done) | (simp only [if_neg (show ¬ (0 ≤ (M.1 500 5)) from c4), if_neg (show ¬ ((r_X4_isWord M 5) = 0) from c12)]; rfl) | rfl
noncomputable def w_X4_readWord_12 (M : Mm)  : Mm := if 0 ≤ (M.1 500 5) then (w_X4_fail M) else if (r_X4_isWord M 12) = 0 then (w_X4_fail M) else (w_X4_advance M)
def p_X4_readWord_12 (M : Mm)  : Prop := (if 0 ≤ (M.1 500 5) then True else (p_X4_isWord M 12) ∧ (if (r_X4_isWord M 12) = 0 then True else (p_X4_advance M ) ∧ True))
set_option maxRecDepth 20000 in
theorem rnX4_readWord_12 {d : Nat} {M : Mm}   (hp : p_X4_readWord_12 M ) : Rn (d + 5) mX4_readWord [.ref 500, .ref 812] M none (w_X4_readWord_12 M ) := by
  refine Rn.of [some (.ref 500), some (.ref 812)] (by decide +kernel) rfl (Nat.le_of_ble_eq_true rfl) rfl (fun J g hr => ?_)
  unfold p_X4_readWord_12 at hp
  refine j_aload_n g (i := 0) (by decide +kernel) rfl ?_
  refine j_gI g f4_28 (by decide +kernel) (by decide +kernel) (by decide +kernel) ?_
  refine j_if_ge g (off := 18) (tgt := 22) (by decide +kernel) (by decide) (fun c4 => ?_) (fun c4 => ?_)
  · rw [if_pos (show 0 ≤ (M.1 500 5) from c4)] at hp
    refine j_aload_n g (i := 0) (by decide +kernel) rfl ?_
    refine j_cV0v g v4_55 ⟨rfl, by decide⟩ (by decide +kernel) (by decide +kernel) (Nat.le_of_ble_eq_true rfl) (rnX4_fail) ?_
    refine hr.2.2.2 _ _ _ (by decide +kernel) rfl rfl ?_
    · unfold w_X4_readWord_12; first | (simp only [if_pos (show 0 ≤ (M.1 500 5) from c4)]; done) | (simp only [if_pos (show 0 ≤ (M.1 500 5) from c4)]; rfl) | rfl
  · rw [if_neg (show ¬ (0 ≤ (M.1 500 5)) from c4)] at hp
    refine j_aload_n g (i := 0) (by decide +kernel) rfl ?_
    refine j_aload_n g (i := 1) (by decide +kernel) rfl ?_
    obtain ⟨h0, hp⟩ := hp
    refine j_cV1r g v4_51 ⟨rfl, by decide⟩ (by decide +kernel) (by decide +kernel) (Nat.le_of_ble_eq_true rfl) (rnX4_isWord (i := 12) (by decide) h0) ?_
    refine j_if_eq g (off := 10) (tgt := 22) (by decide +kernel) (by decide) (fun c12 => ?_) (fun c12 => ?_)
    · rw [if_pos (show (r_X4_isWord M 12) = 0 from c12)] at hp
      refine j_aload_n g (i := 0) (by decide +kernel) rfl ?_
      refine j_cV0v g v4_55 ⟨rfl, by decide⟩ (by decide +kernel) (by decide +kernel) (Nat.le_of_ble_eq_true rfl) (rnX4_fail) ?_
      refine hr.2.2.2 _ _ _ (by decide +kernel) rfl rfl ?_
      · unfold w_X4_readWord_12; first | (simp only [if_neg (show ¬ (0 ≤ (M.1 500 5)) from c4), if_pos (show (r_X4_isWord M 12) = 0 from c12)]; done) | (simp only [if_neg (show ¬ (0 ≤ (M.1 500 5)) from c4), if_pos (show (r_X4_isWord M 12) = 0 from c12)]; rfl) | rfl
    · rw [if_neg (show ¬ ((r_X4_isWord M 12) = 0) from c12)] at hp
      refine j_aload_n g (i := 0) (by decide +kernel) rfl ?_
      obtain ⟨h0, hp⟩ := hp
      refine j_cV0v g v4_31 ⟨rfl, by decide⟩ (by decide +kernel) (by decide +kernel) (Nat.le_of_ble_eq_true rfl) (rnX4_advance h0) ?_
      refine j_goto g (off := 7) (tgt := 26) (by decide +kernel) (by decide) ?_
      refine hr.2.2.2 _ _ _ (by decide +kernel) rfl rfl ?_
      · unfold w_X4_readWord_12; first | (simp only [if_neg (show ¬ (0 ≤ (M.1 500 5)) from c4), if_neg (show ¬ ((r_X4_isWord M 12) = 0) from c12)]; done) | (simp only [if_neg (show ¬ (0 ≤ (M.1 500 5)) from c4), if_neg (show ¬ ((r_X4_isWord M 12) = 0) from c12)]; rfl) | rfl
noncomputable def w_X4_readWord_13 (M : Mm)  : Mm := if 0 ≤ (M.1 500 5) then (w_X4_fail M) else if (r_X4_isWord M 13) = 0 then (w_X4_fail M) else (w_X4_advance M)
def p_X4_readWord_13 (M : Mm)  : Prop := (if 0 ≤ (M.1 500 5) then True else (p_X4_isWord M 13) ∧ (if (r_X4_isWord M 13) = 0 then True else (p_X4_advance M ) ∧ True))
set_option maxRecDepth 20000 in
theorem rnX4_readWord_13 {d : Nat} {M : Mm}   (hp : p_X4_readWord_13 M ) : Rn (d + 5) mX4_readWord [.ref 500, .ref 813] M none (w_X4_readWord_13 M ) := by
  refine Rn.of [some (.ref 500), some (.ref 813)] (by decide +kernel) rfl (Nat.le_of_ble_eq_true rfl) rfl (fun J g hr => ?_)
  unfold p_X4_readWord_13 at hp
  refine j_aload_n g (i := 0) (by decide +kernel) rfl ?_
  refine j_gI g f4_28 (by decide +kernel) (by decide +kernel) (by decide +kernel) ?_
  refine j_if_ge g (off := 18) (tgt := 22) (by decide +kernel) (by decide) (fun c4 => ?_) (fun c4 => ?_)
  · rw [if_pos (show 0 ≤ (M.1 500 5) from c4)] at hp
    refine j_aload_n g (i := 0) (by decide +kernel) rfl ?_
    refine j_cV0v g v4_55 ⟨rfl, by decide⟩ (by decide +kernel) (by decide +kernel) (Nat.le_of_ble_eq_true rfl) (rnX4_fail) ?_
    refine hr.2.2.2 _ _ _ (by decide +kernel) rfl rfl ?_
    · unfold w_X4_readWord_13; first | (simp only [if_pos (show 0 ≤ (M.1 500 5) from c4)]; done) | (simp only [if_pos (show 0 ≤ (M.1 500 5) from c4)]; rfl) | rfl
  · rw [if_neg (show ¬ (0 ≤ (M.1 500 5)) from c4)] at hp
    refine j_aload_n g (i := 0) (by decide +kernel) rfl ?_
    refine j_aload_n g (i := 1) (by decide +kernel) rfl ?_
    obtain ⟨h0, hp⟩ := hp
    refine j_cV1r g v4_51 ⟨rfl, by decide⟩ (by decide +kernel) (by decide +kernel) (Nat.le_of_ble_eq_true rfl) (rnX4_isWord (i := 13) (by decide) h0) ?_
    refine j_if_eq g (off := 10) (tgt := 22) (by decide +kernel) (by decide) (fun c12 => ?_) (fun c12 => ?_)
    · rw [if_pos (show (r_X4_isWord M 13) = 0 from c12)] at hp
      refine j_aload_n g (i := 0) (by decide +kernel) rfl ?_
      refine j_cV0v g v4_55 ⟨rfl, by decide⟩ (by decide +kernel) (by decide +kernel) (Nat.le_of_ble_eq_true rfl) (rnX4_fail) ?_
      refine hr.2.2.2 _ _ _ (by decide +kernel) rfl rfl ?_
      · unfold w_X4_readWord_13; first | (simp only [if_neg (show ¬ (0 ≤ (M.1 500 5)) from c4), if_pos (show (r_X4_isWord M 13) = 0 from c12)]; done) | (simp only [if_neg (show ¬ (0 ≤ (M.1 500 5)) from c4), if_pos (show (r_X4_isWord M 13) = 0 from c12)]; rfl) | rfl
    · rw [if_neg (show ¬ ((r_X4_isWord M 13) = 0) from c12)] at hp
      refine j_aload_n g (i := 0) (by decide +kernel) rfl ?_
      obtain ⟨h0, hp⟩ := hp
      refine j_cV0v g v4_31 ⟨rfl, by decide⟩ (by decide +kernel) (by decide +kernel) (Nat.le_of_ble_eq_true rfl) (rnX4_advance h0) ?_
      refine j_goto g (off := 7) (tgt := 26) (by decide +kernel) (by decide) ?_
      refine hr.2.2.2 _ _ _ (by decide +kernel) rfl rfl ?_
      · unfold w_X4_readWord_13; first | (simp only [if_neg (show ¬ (0 ≤ (M.1 500 5)) from c4), if_neg (show ¬ ((r_X4_isWord M 13) = 0) from c12)]; done) | (simp only [if_neg (show ¬ (0 ≤ (M.1 500 5)) from c4), if_neg (show ¬ ((r_X4_isWord M 13) = 0) from c12)]; rfl) | rfl
noncomputable def w_X4_readWord_14 (M : Mm)  : Mm := if 0 ≤ (M.1 500 5) then (w_X4_fail M) else if (r_X4_isWord M 14) = 0 then (w_X4_fail M) else (w_X4_advance M)
def p_X4_readWord_14 (M : Mm)  : Prop := (if 0 ≤ (M.1 500 5) then True else (p_X4_isWord M 14) ∧ (if (r_X4_isWord M 14) = 0 then True else (p_X4_advance M ) ∧ True))
set_option maxRecDepth 20000 in
theorem rnX4_readWord_14 {d : Nat} {M : Mm}   (hp : p_X4_readWord_14 M ) : Rn (d + 5) mX4_readWord [.ref 500, .ref 814] M none (w_X4_readWord_14 M ) := by
  refine Rn.of [some (.ref 500), some (.ref 814)] (by decide +kernel) rfl (Nat.le_of_ble_eq_true rfl) rfl (fun J g hr => ?_)
  unfold p_X4_readWord_14 at hp
  refine j_aload_n g (i := 0) (by decide +kernel) rfl ?_
  refine j_gI g f4_28 (by decide +kernel) (by decide +kernel) (by decide +kernel) ?_
  refine j_if_ge g (off := 18) (tgt := 22) (by decide +kernel) (by decide) (fun c4 => ?_) (fun c4 => ?_)
  · rw [if_pos (show 0 ≤ (M.1 500 5) from c4)] at hp
    refine j_aload_n g (i := 0) (by decide +kernel) rfl ?_
    refine j_cV0v g v4_55 ⟨rfl, by decide⟩ (by decide +kernel) (by decide +kernel) (Nat.le_of_ble_eq_true rfl) (rnX4_fail) ?_
    refine hr.2.2.2 _ _ _ (by decide +kernel) rfl rfl ?_
    · unfold w_X4_readWord_14; first | (simp only [if_pos (show 0 ≤ (M.1 500 5) from c4)]; done) | (simp only [if_pos (show 0 ≤ (M.1 500 5) from c4)]; rfl) | rfl
  · rw [if_neg (show ¬ (0 ≤ (M.1 500 5)) from c4)] at hp
    refine j_aload_n g (i := 0) (by decide +kernel) rfl ?_
    refine j_aload_n g (i := 1) (by decide +kernel) rfl ?_
    obtain ⟨h0, hp⟩ := hp
    refine j_cV1r g v4_51 ⟨rfl, by decide⟩ (by decide +kernel) (by decide +kernel) (Nat.le_of_ble_eq_true rfl) (rnX4_isWord (i := 14) (by decide) h0) ?_
    refine j_if_eq g (off := 10) (tgt := 22) (by decide +kernel) (by decide) (fun c12 => ?_) (fun c12 => ?_)
    · rw [if_pos (show (r_X4_isWord M 14) = 0 from c12)] at hp
      refine j_aload_n g (i := 0) (by decide +kernel) rfl ?_
      refine j_cV0v g v4_55 ⟨rfl, by decide⟩ (by decide +kernel) (by decide +kernel) (Nat.le_of_ble_eq_true rfl) (rnX4_fail) ?_
      refine hr.2.2.2 _ _ _ (by decide +kernel) rfl rfl ?_
      · unfold w_X4_readWord_14; first | (simp only [if_neg (show ¬ (0 ≤ (M.1 500 5)) from c4), if_pos (show (r_X4_isWord M 14) = 0 from c12)]; done) | (simp only [if_neg (show ¬ (0 ≤ (M.1 500 5)) from c4), if_pos (show (r_X4_isWord M 14) = 0 from c12)]; rfl) | rfl
    · rw [if_neg (show ¬ ((r_X4_isWord M 14) = 0) from c12)] at hp
      refine j_aload_n g (i := 0) (by decide +kernel) rfl ?_
      obtain ⟨h0, hp⟩ := hp
      refine j_cV0v g v4_31 ⟨rfl, by decide⟩ (by decide +kernel) (by decide +kernel) (Nat.le_of_ble_eq_true rfl) (rnX4_advance h0) ?_
      refine j_goto g (off := 7) (tgt := 26) (by decide +kernel) (by decide) ?_
      refine hr.2.2.2 _ _ _ (by decide +kernel) rfl rfl ?_
      · unfold w_X4_readWord_14; first | (simp only [if_neg (show ¬ (0 ≤ (M.1 500 5)) from c4), if_neg (show ¬ ((r_X4_isWord M 14) = 0) from c12)]; done) | (simp only [if_neg (show ¬ (0 ≤ (M.1 500 5)) from c4), if_neg (show ¬ ((r_X4_isWord M 14) = 0) from c12)]; rfl) | rfl
noncomputable def r_X4_kindTold (M : Mm)  : Int32 := if (r_X4_isWord M 6) = 0 then (if (r_X4_isWord M 7) = 0 then (if (r_X4_isWord M 8) = 0 then (if (r_X4_isWord M 9) = 0 then (if (r_X4_isWord M 10) = 0 then (if (r_X4_isWord M 11) = 0 then (-1) else 5) else 4) else 3) else 2) else 1) else 0
def p_X4_kindTold (M : Mm)  : Prop := (p_X4_isWord M 6) ∧ (if (r_X4_isWord M 6) = 0 then (p_X4_isWord M 7) ∧ (if (r_X4_isWord M 7) = 0 then (p_X4_isWord M 8) ∧ (if (r_X4_isWord M 8) = 0 then (p_X4_isWord M 9) ∧ (if (r_X4_isWord M 9) = 0 then (p_X4_isWord M 10) ∧ (if (r_X4_isWord M 10) = 0 then (p_X4_isWord M 11) ∧ (if (r_X4_isWord M 11) = 0 then True else True) else True) else True) else True) else True) else True)
set_option maxRecDepth 20000 in
theorem rnX4_kindTold {d : Nat} {M : Mm}   (hp : p_X4_kindTold M ) : Rn (d + 5) mX4_kindTold [.ref 500] M (some (.int (r_X4_kindTold M ))) M := by
  refine Rn.of [some (.ref 500)] (by decide +kernel) rfl (Nat.le_of_ble_eq_true rfl) rfl (fun J g hr => ?_)
  unfold p_X4_kindTold at hp
  refine j_aload_n g (i := 0) (by decide +kernel) rfl ?_
  refine j_ldcT g 6 rfl (by decide +kernel) ?_
  obtain ⟨h0, hp⟩ := hp
  refine j_cV1r g v4_51 ⟨rfl, by decide⟩ (by decide +kernel) (by decide +kernel) (Nat.le_of_ble_eq_true rfl) (rnX4_isWord (i := 6) (by decide) h0) ?_
  refine j_if_eq g (off := 5) (tgt := 11) (by decide +kernel) (by decide) (fun c6 => ?_) (fun c6 => ?_)
  · rw [if_pos (show (r_X4_isWord M 6) = 0 from c6)] at hp
    refine j_aload_n g (i := 0) (by decide +kernel) rfl ?_
    refine j_ldcT g 7 rfl (by decide +kernel) ?_
    obtain ⟨h0, hp⟩ := hp
    refine j_cV1r g v4_51 ⟨rfl, by decide⟩ (by decide +kernel) (by decide +kernel) (Nat.le_of_ble_eq_true rfl) (rnX4_isWord (i := 7) (by decide) h0) ?_
    refine j_if_eq g (off := 5) (tgt := 22) (by decide +kernel) (by decide) (fun c17 => ?_) (fun c17 => ?_)
    · rw [if_pos (show (r_X4_isWord M 7) = 0 from c17)] at hp
      refine j_aload_n g (i := 0) (by decide +kernel) rfl ?_
      refine j_ldcT g 8 rfl (by decide +kernel) ?_
      obtain ⟨h0, hp⟩ := hp
      refine j_cV1r g v4_51 ⟨rfl, by decide⟩ (by decide +kernel) (by decide +kernel) (Nat.le_of_ble_eq_true rfl) (rnX4_isWord (i := 8) (by decide) h0) ?_
      refine j_if_eq g (off := 5) (tgt := 33) (by decide +kernel) (by decide) (fun c28 => ?_) (fun c28 => ?_)
      · rw [if_pos (show (r_X4_isWord M 8) = 0 from c28)] at hp
        refine j_aload_n g (i := 0) (by decide +kernel) rfl ?_
        refine j_ldcT g 9 rfl (by decide +kernel) ?_
        obtain ⟨h0, hp⟩ := hp
        refine j_cV1r g v4_51 ⟨rfl, by decide⟩ (by decide +kernel) (by decide +kernel) (Nat.le_of_ble_eq_true rfl) (rnX4_isWord (i := 9) (by decide) h0) ?_
        refine j_if_eq g (off := 5) (tgt := 44) (by decide +kernel) (by decide) (fun c39 => ?_) (fun c39 => ?_)
        · rw [if_pos (show (r_X4_isWord M 9) = 0 from c39)] at hp
          refine j_aload_n g (i := 0) (by decide +kernel) rfl ?_
          refine j_ldcT g 10 rfl (by decide +kernel) ?_
          obtain ⟨h0, hp⟩ := hp
          refine j_cV1r g v4_51 ⟨rfl, by decide⟩ (by decide +kernel) (by decide +kernel) (Nat.le_of_ble_eq_true rfl) (rnX4_isWord (i := 10) (by decide) h0) ?_
          refine j_if_eq g (off := 5) (tgt := 55) (by decide +kernel) (by decide) (fun c50 => ?_) (fun c50 => ?_)
          · rw [if_pos (show (r_X4_isWord M 10) = 0 from c50)] at hp
            refine j_aload_n g (i := 0) (by decide +kernel) rfl ?_
            refine j_ldcT g 11 rfl (by decide +kernel) ?_
            obtain ⟨h0, hp⟩ := hp
            refine j_cV1r g v4_51 ⟨rfl, by decide⟩ (by decide +kernel) (by decide +kernel) (Nat.le_of_ble_eq_true rfl) (rnX4_isWord (i := 11) (by decide) h0) ?_
            refine j_if_eq g (off := 7) (tgt := 68) (by decide +kernel) (by decide) (fun c61 => ?_) (fun c61 => ?_)
            · rw [if_pos (show (r_X4_isWord M 11) = 0 from c61)] at hp
              refine j_iconst g (n := -1) (-1) (by decide +kernel) rfl ?_
              refine hr.1 _ _ _ _ (by decide +kernel) ⟨_, rfl, by first | rfl | exact b2i_nar | decide +kernel⟩ ?_ ?_
              · unfold r_X4_kindTold; first | (simp only [if_pos (show (r_X4_isWord M 6) = 0 from c6), if_pos (show (r_X4_isWord M 7) = 0 from c17), if_pos (show (r_X4_isWord M 8) = 0 from c28), if_pos (show (r_X4_isWord M 9) = 0 from c39), if_pos (show (r_X4_isWord M 10) = 0 from c50), if_pos (show (r_X4_isWord M 11) = 0 from c61)]; done) | (simp only [if_pos (show (r_X4_isWord M 6) = 0 from c6), if_pos (show (r_X4_isWord M 7) = 0 from c17), if_pos (show (r_X4_isWord M 8) = 0 from c28), if_pos (show (r_X4_isWord M 9) = 0 from c39), if_pos (show (r_X4_isWord M 10) = 0 from c50), if_pos (show (r_X4_isWord M 11) = 0 from c61)]; rfl) | rfl
              · rfl
            · rw [if_neg (show ¬ ((r_X4_isWord M 11) = 0) from c61)] at hp
              refine j_iconst g (n := 5) (5) (by decide +kernel) rfl ?_
              refine j_goto g (off := 4) (tgt := 69) (by decide +kernel) (by decide) ?_
              refine hr.1 _ _ _ _ (by decide +kernel) ⟨_, rfl, by first | rfl | exact b2i_nar | decide +kernel⟩ ?_ ?_
              · unfold r_X4_kindTold; first | (simp only [if_pos (show (r_X4_isWord M 6) = 0 from c6), if_pos (show (r_X4_isWord M 7) = 0 from c17), if_pos (show (r_X4_isWord M 8) = 0 from c28), if_pos (show (r_X4_isWord M 9) = 0 from c39), if_pos (show (r_X4_isWord M 10) = 0 from c50), if_neg (show ¬ ((r_X4_isWord M 11) = 0) from c61)]; done) | (simp only [if_pos (show (r_X4_isWord M 6) = 0 from c6), if_pos (show (r_X4_isWord M 7) = 0 from c17), if_pos (show (r_X4_isWord M 8) = 0 from c28), if_pos (show (r_X4_isWord M 9) = 0 from c39), if_pos (show (r_X4_isWord M 10) = 0 from c50), if_neg (show ¬ ((r_X4_isWord M 11) = 0) from c61)]; rfl) | rfl
              · rfl
          · rw [if_neg (show ¬ ((r_X4_isWord M 10) = 0) from c50)] at hp
            refine j_iconst g (n := 4) (4) (by decide +kernel) rfl ?_
            refine hr.1 _ _ _ _ (by decide +kernel) ⟨_, rfl, by first | rfl | exact b2i_nar | decide +kernel⟩ ?_ ?_
            · unfold r_X4_kindTold; first | (simp only [if_pos (show (r_X4_isWord M 6) = 0 from c6), if_pos (show (r_X4_isWord M 7) = 0 from c17), if_pos (show (r_X4_isWord M 8) = 0 from c28), if_pos (show (r_X4_isWord M 9) = 0 from c39), if_neg (show ¬ ((r_X4_isWord M 10) = 0) from c50)]; done) | (simp only [if_pos (show (r_X4_isWord M 6) = 0 from c6), if_pos (show (r_X4_isWord M 7) = 0 from c17), if_pos (show (r_X4_isWord M 8) = 0 from c28), if_pos (show (r_X4_isWord M 9) = 0 from c39), if_neg (show ¬ ((r_X4_isWord M 10) = 0) from c50)]; rfl) | rfl
            · rfl
        · rw [if_neg (show ¬ ((r_X4_isWord M 9) = 0) from c39)] at hp
          refine j_iconst g (n := 3) (3) (by decide +kernel) rfl ?_
          refine hr.1 _ _ _ _ (by decide +kernel) ⟨_, rfl, by first | rfl | exact b2i_nar | decide +kernel⟩ ?_ ?_
          · unfold r_X4_kindTold; first | (simp only [if_pos (show (r_X4_isWord M 6) = 0 from c6), if_pos (show (r_X4_isWord M 7) = 0 from c17), if_pos (show (r_X4_isWord M 8) = 0 from c28), if_neg (show ¬ ((r_X4_isWord M 9) = 0) from c39)]; done) | (simp only [if_pos (show (r_X4_isWord M 6) = 0 from c6), if_pos (show (r_X4_isWord M 7) = 0 from c17), if_pos (show (r_X4_isWord M 8) = 0 from c28), if_neg (show ¬ ((r_X4_isWord M 9) = 0) from c39)]; rfl) | rfl
          · rfl
      · rw [if_neg (show ¬ ((r_X4_isWord M 8) = 0) from c28)] at hp
        refine j_iconst g (n := 2) (2) (by decide +kernel) rfl ?_
        refine hr.1 _ _ _ _ (by decide +kernel) ⟨_, rfl, by first | rfl | exact b2i_nar | decide +kernel⟩ ?_ ?_
        · unfold r_X4_kindTold; first | (simp only [if_pos (show (r_X4_isWord M 6) = 0 from c6), if_pos (show (r_X4_isWord M 7) = 0 from c17), if_neg (show ¬ ((r_X4_isWord M 8) = 0) from c28)]; done) | (simp only [if_pos (show (r_X4_isWord M 6) = 0 from c6), if_pos (show (r_X4_isWord M 7) = 0 from c17), if_neg (show ¬ ((r_X4_isWord M 8) = 0) from c28)]; rfl) | rfl
        · rfl
    · rw [if_neg (show ¬ ((r_X4_isWord M 7) = 0) from c17)] at hp
      refine j_iconst g (n := 1) (1) (by decide +kernel) rfl ?_
      refine hr.1 _ _ _ _ (by decide +kernel) ⟨_, rfl, by first | rfl | exact b2i_nar | decide +kernel⟩ ?_ ?_
      · unfold r_X4_kindTold; first | (simp only [if_pos (show (r_X4_isWord M 6) = 0 from c6), if_neg (show ¬ ((r_X4_isWord M 7) = 0) from c17)]; done) | (simp only [if_pos (show (r_X4_isWord M 6) = 0 from c6), if_neg (show ¬ ((r_X4_isWord M 7) = 0) from c17)]; rfl) | rfl
      · rfl
  · rw [if_neg (show ¬ ((r_X4_isWord M 6) = 0) from c6)] at hp
    refine j_iconst g (n := 0) (0) (by decide +kernel) rfl ?_
    refine hr.1 _ _ _ _ (by decide +kernel) ⟨_, rfl, by first | rfl | exact b2i_nar | decide +kernel⟩ ?_ ?_
    · unfold r_X4_kindTold; first | (simp only [if_neg (show ¬ ((r_X4_isWord M 6) = 0) from c6)]; done) | (simp only [if_neg (show ¬ ((r_X4_isWord M 6) = 0) from c6)]; rfl) | rfl
    · rfl
noncomputable def w_X4_readWork_165 (M : Mm) (a2 : Int32) (x3 : Int32) (x4 : Int32) (x5 : Int32) (x6 : Int32) (x7 : Int32) (x8 : Int32) : Mm := (wi (w_X4_readNumber M (1 : Int32) (99 : Int32)) (310 + Int32.toNatClampNeg x8) 7 (r_X4_readNumber M (1 : Int32) (99 : Int32)))
def p_X4_readWork_165 (M : Mm) (a2 : Int32) (x3 : Int32) (x4 : Int32) (x5 : Int32) (x6 : Int32) (x7 : Int32) (x8 : Int32) : Prop := (vp_in x8 6) ∧ (p_X4_readNumber M (1 : Int32) (99 : Int32)) ∧ True
theorem jn_X4_readWork_165 {d : Nat} {J : Nat → Lc → List Value → Mm → Prop} {M : Mm} {a2 : Int32} {x3 : Int32} {x4 : Int32} {x5 : Int32} {x6 : Int32} {x7 : Int32} {x8 : Int32}  (g : Good mX4_readWork.1 mX4_readWork.2.2.1 mX4_readWork.2.2.2.1 (d + 6) J) {rv : Option Value} {M1 : Mm} (hr : Ret mX4_readWork.2.2.1 mX4_readWork.2.2.2.2 rv M1 J) (hp : p_X4_readWork_165 M a2 x3 x4 x5 x6 x7 x8) (hrv : rv = none) (hmm : M1 = w_X4_readWork_165 M a2 x3 x4 x5 x6 x7 x8) : J 165 [some (.ref 500), some (.ref 300), some (.int a2), some (.int x3), some (.int x4), some (.int x5), some (.int x6), some (.int x7), some (.int x8)] [] M := by
  unfold p_X4_readWork_165 at hp
  refine j_aload_n g (i := 1) (by decide +kernel) rfl ?_
  refine j_gA g (b := 303) f4_144 (by decide +kernel) (by decide +kernel) (by decide +kernel) (by decide +kernel) ?_
  refine j_iload g (i := 8) (by decide +kernel) rfl ?_
  obtain ⟨h0, hp⟩ := hp
  refine j_aW g 6 (by decide +kernel) (by decide +kernel) (by decide +kernel) h0 (rfW303 h0) ?_
  have hw171 := h0
  refine j_aload_n g (i := 0) (by decide +kernel) rfl ?_
  refine j_iconst g (n := 1) (1) (by decide +kernel) rfl ?_
  refine j_bipush g (n := 99) (99) (by decide +kernel) (by decide +kernel) ?_
  obtain ⟨h0, hp⟩ := hp
  refine j_cV2r g v4_109 ⟨rfl, by decide⟩ (by decide +kernel) (by decide +kernel) (Nat.le_of_ble_eq_true rfl) (rnX4_readNumber h0) ?_
  refine j_pI g f4_154 (fun q h => by cases h; rfl) (by decide +kernel) (by decide +kernel) (gkW303 hw171) ?_
  refine hr.2.2.2 _ _ _ (by decide +kernel) rfl hrv ?_
  · rw [hmm]; unfold w_X4_readWork_165; rfl
noncomputable def w_X4_readWork_145 (M : Mm) (a2 : Int32) (x3 : Int32) (x4 : Int32) (x5 : Int32) (x6 : Int32) (x7 : Int32) (x8 : Int32) : Mm := if 0 ≤ (M.1 500 5) then M else if (r_X4_isWord M 16) = 0 then M else w_X4_readWork_165 (w_X4_advance M) a2 x3 x4 x5 x6 x7 x8
def p_X4_readWork_145 (M : Mm) (a2 : Int32) (x3 : Int32) (x4 : Int32) (x5 : Int32) (x6 : Int32) (x7 : Int32) (x8 : Int32) : Prop := (if 0 ≤ (M.1 500 5) then True else (p_X4_isWord M 16) ∧ (if (r_X4_isWord M 16) = 0 then True else (p_X4_advance M ) ∧ p_X4_readWork_165 (w_X4_advance M) a2 x3 x4 x5 x6 x7 x8))
theorem jn_X4_readWork_145 {d : Nat} {J : Nat → Lc → List Value → Mm → Prop} {M : Mm} {a2 : Int32} {x3 : Int32} {x4 : Int32} {x5 : Int32} {x6 : Int32} {x7 : Int32} {x8 : Int32}  (g : Good mX4_readWork.1 mX4_readWork.2.2.1 mX4_readWork.2.2.2.1 (d + 6) J) {rv : Option Value} {M1 : Mm} (hr : Ret mX4_readWork.2.2.1 mX4_readWork.2.2.2.2 rv M1 J) (hp : p_X4_readWork_145 M a2 x3 x4 x5 x6 x7 x8) (hrv : rv = none) (hmm : M1 = w_X4_readWork_145 M a2 x3 x4 x5 x6 x7 x8) : J 145 [some (.ref 500), some (.ref 300), some (.int a2), some (.int x3), some (.int x4), some (.int x5), some (.int x6), some (.int x7), some (.int x8)] [] M := by
  unfold p_X4_readWork_145 at hp
  refine j_aload_n g (i := 0) (by decide +kernel) rfl ?_
  refine j_gI g f4_28 (by decide +kernel) (by decide +kernel) (by decide +kernel) ?_
  refine j_if_ge g (off := 33) (tgt := 182) (by decide +kernel) (by decide) (fun c149 => ?_) (fun c149 => ?_)
  · rw [if_pos (show 0 ≤ (M.1 500 5) from c149)] at hp
    refine hr.2.2.2 _ _ _ (by decide +kernel) rfl hrv ?_
    · rw [hmm]; unfold w_X4_readWork_145; first | (simp only [if_pos (show 0 ≤ (M.1 500 5) from c149)]; done) | (simp only [if_pos (show 0 ≤ (M.1 500 5) from c149)]; rfl) | rfl
  · rw [if_neg (show ¬ (0 ≤ (M.1 500 5)) from c149)] at hp
    refine j_aload_n g (i := 0) (by decide +kernel) rfl ?_
    refine j_ldcT g 16 rfl (by decide +kernel) ?_
    obtain ⟨h0, hp⟩ := hp
    refine j_cV1r g v4_51 ⟨rfl, by decide⟩ (by decide +kernel) (by decide +kernel) (Nat.le_of_ble_eq_true rfl) (rnX4_isWord (i := 16) (by decide) h0) ?_
    refine j_if_eq g (off := 24) (tgt := 182) (by decide +kernel) (by decide) (fun c158 => ?_) (fun c158 => ?_)
    · rw [if_pos (show (r_X4_isWord M 16) = 0 from c158)] at hp
      refine hr.2.2.2 _ _ _ (by decide +kernel) rfl hrv ?_
      · rw [hmm]; unfold w_X4_readWork_145; first | (simp only [if_neg (show ¬ (0 ≤ (M.1 500 5)) from c149), if_pos (show (r_X4_isWord M 16) = 0 from c158)]; done) | (simp only [if_neg (show ¬ (0 ≤ (M.1 500 5)) from c149), if_pos (show (r_X4_isWord M 16) = 0 from c158)]; rfl) | rfl
    · rw [if_neg (show ¬ ((r_X4_isWord M 16) = 0) from c158)] at hp
      refine j_aload_n g (i := 0) (by decide +kernel) rfl ?_
      obtain ⟨h0, hp⟩ := hp
      refine j_cV0v g v4_31 ⟨rfl, by decide⟩ (by decide +kernel) (by decide +kernel) (Nat.le_of_ble_eq_true rfl) (rnX4_advance h0) ?_
      refine jn_X4_readWork_165  g hr hp ?_ ?_ 
      · exact hrv
      · rw [hmm]; unfold w_X4_readWork_145; first | (simp only [if_neg (show ¬ (0 ≤ (M.1 500 5)) from c149), if_neg (show ¬ ((r_X4_isWord M 16) = 0) from c158)]; done) | (simp only [if_neg (show ¬ (0 ≤ (M.1 500 5)) from c149), if_neg (show ¬ ((r_X4_isWord M 16) = 0) from c158)]; rfl) | rfl
noncomputable def w_X4_readWork_126 (M : Mm) (a2 : Int32) (x3 : Int32) (x4 : Int32) (x5 : Int32) (x6 : Int32) (x7 : Int32) (x8 : Int32) : Mm := w_X4_readWork_145 (wi (w_X4_readNumber M (0 : Int32) (x8 - 1)) (310 + Int32.toNatClampNeg x8) 6 (r_X4_readNumber M (0 : Int32) (x8 - 1))) a2 x3 x4 x5 x6 x7 x8
def p_X4_readWork_126 (M : Mm) (a2 : Int32) (x3 : Int32) (x4 : Int32) (x5 : Int32) (x6 : Int32) (x7 : Int32) (x8 : Int32) : Prop := (vp_in x8 6) ∧ (p_X4_readNumber M (0 : Int32) (x8 - 1)) ∧ p_X4_readWork_145 (wi (w_X4_readNumber M (0 : Int32) (x8 - 1)) (310 + Int32.toNatClampNeg x8) 6 (r_X4_readNumber M (0 : Int32) (x8 - 1))) a2 x3 x4 x5 x6 x7 x8
theorem jn_X4_readWork_126 {d : Nat} {J : Nat → Lc → List Value → Mm → Prop} {M : Mm} {a2 : Int32} {x3 : Int32} {x4 : Int32} {x5 : Int32} {x6 : Int32} {x7 : Int32} {x8 : Int32}  (g : Good mX4_readWork.1 mX4_readWork.2.2.1 mX4_readWork.2.2.2.1 (d + 6) J) {rv : Option Value} {M1 : Mm} (hr : Ret mX4_readWork.2.2.1 mX4_readWork.2.2.2.2 rv M1 J) (hp : p_X4_readWork_126 M a2 x3 x4 x5 x6 x7 x8) (hrv : rv = none) (hmm : M1 = w_X4_readWork_126 M a2 x3 x4 x5 x6 x7 x8) : J 126 [some (.ref 500), some (.ref 300), some (.int a2), some (.int x3), some (.int x4), some (.int x5), some (.int x6), some (.int x7), some (.int x8)] [] M := by
  unfold p_X4_readWork_126 at hp
  refine j_aload_n g (i := 1) (by decide +kernel) rfl ?_
  refine j_gA g (b := 303) f4_144 (by decide +kernel) (by decide +kernel) (by decide +kernel) (by decide +kernel) ?_
  refine j_iload g (i := 8) (by decide +kernel) rfl ?_
  obtain ⟨h0, hp⟩ := hp
  refine j_aW g 6 (by decide +kernel) (by decide +kernel) (by decide +kernel) h0 (rfW303 h0) ?_
  have hw132 := h0
  refine j_aload_n g (i := 0) (by decide +kernel) rfl ?_
  refine j_iconst g (n := 0) (0) (by decide +kernel) rfl ?_
  refine j_iload g (i := 8) (by decide +kernel) rfl ?_
  refine j_iconst g (n := 1) (1) (by decide +kernel) rfl ?_
  refine j_isub g (by decide +kernel) ?_
  obtain ⟨h0, hp⟩ := hp
  refine j_cV2r g v4_109 ⟨rfl, by decide⟩ (by decide +kernel) (by decide +kernel) (Nat.le_of_ble_eq_true rfl) (rnX4_readNumber h0) ?_
  refine j_pI g f4_148 (fun q h => by cases h; rfl) (by decide +kernel) (by decide +kernel) (gkW303 hw132) ?_
  refine jn_X4_readWork_145  g hr hp ?_ ?_ 
  · exact hrv
  · rw [hmm]; unfold w_X4_readWork_126; rfl
noncomputable def w_X4_readWork_113 (M : Mm) (a2 : Int32) (x3 : Int32) (x4 : Int32) (x5 : Int32) (x6 : Int32) (x7 : Int32) (x8 : Int32) : Mm := if (r_X4_isWord M 15) = 0 then M else w_X4_readWork_126 (w_X4_advance M) a2 x3 x4 x5 x6 x7 x8
def p_X4_readWork_113 (M : Mm) (a2 : Int32) (x3 : Int32) (x4 : Int32) (x5 : Int32) (x6 : Int32) (x7 : Int32) (x8 : Int32) : Prop := (p_X4_isWord M 15) ∧ (if (r_X4_isWord M 15) = 0 then True else (p_X4_advance M ) ∧ p_X4_readWork_126 (w_X4_advance M) a2 x3 x4 x5 x6 x7 x8)
theorem jn_X4_readWork_113 {d : Nat} {J : Nat → Lc → List Value → Mm → Prop} {M : Mm} {a2 : Int32} {x3 : Int32} {x4 : Int32} {x5 : Int32} {x6 : Int32} {x7 : Int32} {x8 : Int32}  (g : Good mX4_readWork.1 mX4_readWork.2.2.1 mX4_readWork.2.2.2.1 (d + 6) J) {rv : Option Value} {M1 : Mm} (hr : Ret mX4_readWork.2.2.1 mX4_readWork.2.2.2.2 rv M1 J) (hp : p_X4_readWork_113 M a2 x3 x4 x5 x6 x7 x8) (hrv : rv = none) (hmm : M1 = w_X4_readWork_113 M a2 x3 x4 x5 x6 x7 x8) : J 113 [some (.ref 500), some (.ref 300), some (.int a2), some (.int x3), some (.int x4), some (.int x5), some (.int x6), some (.int x7), some (.int x8)] [] M := by
  unfold p_X4_readWork_113 at hp
  refine j_aload_n g (i := 0) (by decide +kernel) rfl ?_
  refine j_ldcT g 15 rfl (by decide +kernel) ?_
  obtain ⟨h0, hp⟩ := hp
  refine j_cV1r g v4_51 ⟨rfl, by decide⟩ (by decide +kernel) (by decide +kernel) (Nat.le_of_ble_eq_true rfl) (rnX4_isWord (i := 15) (by decide) h0) ?_
  refine j_if_eq g (off := 63) (tgt := 182) (by decide +kernel) (by decide) (fun c119 => ?_) (fun c119 => ?_)
  · rw [if_pos (show (r_X4_isWord M 15) = 0 from c119)] at hp
    refine hr.2.2.2 _ _ _ (by decide +kernel) rfl hrv ?_
    · rw [hmm]; unfold w_X4_readWork_113; first | (simp only [if_pos (show (r_X4_isWord M 15) = 0 from c119)]; done) | (simp only [if_pos (show (r_X4_isWord M 15) = 0 from c119)]; rfl) | rfl
  · rw [if_neg (show ¬ ((r_X4_isWord M 15) = 0) from c119)] at hp
    refine j_aload_n g (i := 0) (by decide +kernel) rfl ?_
    obtain ⟨h0, hp⟩ := hp
    refine j_cV0v g v4_31 ⟨rfl, by decide⟩ (by decide +kernel) (by decide +kernel) (Nat.le_of_ble_eq_true rfl) (rnX4_advance h0) ?_
    refine jn_X4_readWork_126  g hr hp ?_ ?_ 
    · exact hrv
    · rw [hmm]; unfold w_X4_readWork_113; first | (simp only [if_neg (show ¬ ((r_X4_isWord M 15) = 0) from c119)]; done) | (simp only [if_neg (show ¬ ((r_X4_isWord M 15) = 0) from c119)]; rfl) | rfl
noncomputable def w_X4_readWork_97 (M : Mm) (a2 : Int32) (x3 : Int32) (x4 : Int32) (x5 : Int32) (x6 : Int32) (x7 : Int32) : Mm := w_X4_readWork_113 (w_X5_addWork_300 M a2 x3 x4 x5 x6 x7) a2 x3 x4 x5 x6 x7 (r_X5_addWork_300 M a2 x3 x4 x5 x6 x7)
def p_X4_readWork_97 (M : Mm) (a2 : Int32) (x3 : Int32) (x4 : Int32) (x5 : Int32) (x6 : Int32) (x7 : Int32) : Prop := (p_X5_addWork_300 M a2 x3 x4 x5 x6 x7) ∧ p_X4_readWork_113 (w_X5_addWork_300 M a2 x3 x4 x5 x6 x7) a2 x3 x4 x5 x6 x7 (r_X5_addWork_300 M a2 x3 x4 x5 x6 x7)
theorem jn_X4_readWork_97 {d : Nat} {J : Nat → Lc → List Value → Mm → Prop} {M : Mm} {a2 : Int32} {x3 : Int32} {x4 : Int32} {x5 : Int32} {x6 : Int32} {x7 : Int32}  (g : Good mX4_readWork.1 mX4_readWork.2.2.1 mX4_readWork.2.2.2.1 (d + 6) J) {rv : Option Value} {M1 : Mm} (hr : Ret mX4_readWork.2.2.1 mX4_readWork.2.2.2.2 rv M1 J) (hp : p_X4_readWork_97 M a2 x3 x4 x5 x6 x7) (hrv : rv = none) (hmm : M1 = w_X4_readWork_97 M a2 x3 x4 x5 x6 x7) : J 97 [some (.ref 500), some (.ref 300), some (.int a2), some (.int x3), some (.int x4), some (.int x5), some (.int x6), some (.int x7), none] [] M := by
  unfold p_X4_readWork_97 at hp
  refine j_aload_n g (i := 1) (by decide +kernel) rfl ?_
  refine j_iload_n g (i := 2) (by decide +kernel) rfl ?_
  refine j_iload_n g (i := 3) (by decide +kernel) rfl ?_
  refine j_iload g (i := 4) (by decide +kernel) rfl ?_
  refine j_iload g (i := 5) (by decide +kernel) rfl ?_
  refine j_iload g (i := 6) (by decide +kernel) rfl ?_
  refine j_iload g (i := 7) (by decide +kernel) rfl ?_
  obtain ⟨h0, hp⟩ := hp
  refine j_cV6r g v4_138 ⟨rfl, by decide⟩ (by decide +kernel) (by decide +kernel) (Nat.le_of_ble_eq_true rfl) (rnX5_addWork_300 h0) ?_
  refine j_istore g (i := 8) (by decide +kernel) (by decide) ?_
  dsimp only [stL, clL, hdL]
  refine jn_X4_readWork_113  g hr hp ?_ ?_ 
  · exact hrv
  · rw [hmm]; unfold w_X4_readWork_97; rfl
noncomputable def w_X4_readWork_89 (M : Mm) (a2 : Int32) (x3 : Int32) (x4 : Int32) (x5 : Int32) (x6 : Int32) (x7 : Int32) : Mm := if (M.1 500 5) < 0 then w_X4_readWork_97 M a2 x3 x4 x5 x6 x7 else M
def p_X4_readWork_89 (M : Mm) (a2 : Int32) (x3 : Int32) (x4 : Int32) (x5 : Int32) (x6 : Int32) (x7 : Int32) : Prop := (if (M.1 500 5) < 0 then p_X4_readWork_97 M a2 x3 x4 x5 x6 x7 else True)
theorem jn_X4_readWork_89 {d : Nat} {J : Nat → Lc → List Value → Mm → Prop} {M : Mm} {a2 : Int32} {x3 : Int32} {x4 : Int32} {x5 : Int32} {x6 : Int32} {x7 : Int32}  (g : Good mX4_readWork.1 mX4_readWork.2.2.1 mX4_readWork.2.2.2.1 (d + 6) J) {rv : Option Value} {M1 : Mm} (hr : Ret mX4_readWork.2.2.1 mX4_readWork.2.2.2.2 rv M1 J) (hp : p_X4_readWork_89 M a2 x3 x4 x5 x6 x7) (hrv : rv = none) (hmm : M1 = w_X4_readWork_89 M a2 x3 x4 x5 x6 x7) : J 89 [some (.ref 500), some (.ref 300), some (.int a2), some (.int x3), some (.int x4), some (.int x5), some (.int x6), some (.int x7), none] [] M := by
  unfold p_X4_readWork_89 at hp
  refine j_aload_n g (i := 0) (by decide +kernel) rfl ?_
  refine j_gI g f4_28 (by decide +kernel) (by decide +kernel) (by decide +kernel) ?_
  refine j_if_lt g (off := 4) (tgt := 97) (by decide +kernel) (by decide) (fun c93 => ?_) (fun c93 => ?_)
  · rw [if_pos (show (M.1 500 5) < 0 from c93)] at hp
    refine jn_X4_readWork_97  g hr hp ?_ ?_ 
    · exact hrv
    · rw [hmm]; unfold w_X4_readWork_89; first | (simp only [if_pos (show (M.1 500 5) < 0 from c93)]; done) | (simp only [if_pos (show (M.1 500 5) < 0 from c93)]; rfl) | rfl
  · rw [if_neg (show ¬ ((M.1 500 5) < 0) from c93)] at hp
    refine hr.2.2.2 _ _ _ (by decide +kernel) rfl hrv ?_
    · rw [hmm]; unfold w_X4_readWork_89; first | (simp only [if_neg (show ¬ ((M.1 500 5) < 0) from c93)]; done) | (simp only [if_neg (show ¬ ((M.1 500 5) < 0) from c93)]; rfl) | rfl
noncomputable def w_X4_readWork_80 (M : Mm) (a2 : Int32) (x3 : Int32) (x4 : Int32) (x5 : Int32) (x6 : Int32) : Mm := w_X4_readWork_89 (w_X4_readNumber M (0 : Int32) (99 : Int32)) a2 x3 x4 x5 x6 (r_X4_readNumber M (0 : Int32) (99 : Int32))
def p_X4_readWork_80 (M : Mm) (a2 : Int32) (x3 : Int32) (x4 : Int32) (x5 : Int32) (x6 : Int32) : Prop := (p_X4_readNumber M (0 : Int32) (99 : Int32)) ∧ p_X4_readWork_89 (w_X4_readNumber M (0 : Int32) (99 : Int32)) a2 x3 x4 x5 x6 (r_X4_readNumber M (0 : Int32) (99 : Int32))
theorem jn_X4_readWork_80 {d : Nat} {J : Nat → Lc → List Value → Mm → Prop} {M : Mm} {a2 : Int32} {x3 : Int32} {x4 : Int32} {x5 : Int32} {x6 : Int32}  (g : Good mX4_readWork.1 mX4_readWork.2.2.1 mX4_readWork.2.2.2.1 (d + 6) J) {rv : Option Value} {M1 : Mm} (hr : Ret mX4_readWork.2.2.1 mX4_readWork.2.2.2.2 rv M1 J) (hp : p_X4_readWork_80 M a2 x3 x4 x5 x6) (hrv : rv = none) (hmm : M1 = w_X4_readWork_80 M a2 x3 x4 x5 x6) : J 80 [some (.ref 500), some (.ref 300), some (.int a2), some (.int x3), some (.int x4), some (.int x5), some (.int x6), none, none] [] M := by
  unfold p_X4_readWork_80 at hp
  refine j_aload_n g (i := 0) (by decide +kernel) rfl ?_
  refine j_iconst g (n := 0) (0) (by decide +kernel) rfl ?_
  refine j_bipush g (n := 99) (99) (by decide +kernel) (by decide +kernel) ?_
  obtain ⟨h0, hp⟩ := hp
  refine j_cV2r g v4_109 ⟨rfl, by decide⟩ (by decide +kernel) (by decide +kernel) (Nat.le_of_ble_eq_true rfl) (rnX4_readNumber h0) ?_
  refine j_istore g (i := 7) (by decide +kernel) (by decide) ?_
  dsimp only [stL, clL, hdL]
  refine jn_X4_readWork_89  g hr hp ?_ ?_ 
  · exact hrv
  · rw [hmm]; unfold w_X4_readWork_80; rfl
noncomputable def w_X4_readWork_74 (M : Mm) (a2 : Int32) (x3 : Int32) (x4 : Int32) (x5 : Int32) (x6 : Int32) : Mm := w_X4_readWork_80 (w_X4_readWord_14 M) a2 x3 x4 x5 x6
def p_X4_readWork_74 (M : Mm) (a2 : Int32) (x3 : Int32) (x4 : Int32) (x5 : Int32) (x6 : Int32) : Prop := (p_X4_readWord_14 M ) ∧ p_X4_readWork_80 (w_X4_readWord_14 M) a2 x3 x4 x5 x6
theorem jn_X4_readWork_74 {d : Nat} {J : Nat → Lc → List Value → Mm → Prop} {M : Mm} {a2 : Int32} {x3 : Int32} {x4 : Int32} {x5 : Int32} {x6 : Int32}  (g : Good mX4_readWork.1 mX4_readWork.2.2.1 mX4_readWork.2.2.2.1 (d + 6) J) {rv : Option Value} {M1 : Mm} (hr : Ret mX4_readWork.2.2.1 mX4_readWork.2.2.2.2 rv M1 J) (hp : p_X4_readWork_74 M a2 x3 x4 x5 x6) (hrv : rv = none) (hmm : M1 = w_X4_readWork_74 M a2 x3 x4 x5 x6) : J 74 [some (.ref 500), some (.ref 300), some (.int a2), some (.int x3), some (.int x4), some (.int x5), some (.int x6), none, none] [] M := by
  unfold p_X4_readWork_74 at hp
  refine j_aload_n g (i := 0) (by decide +kernel) rfl ?_
  refine j_ldcT g 14 rfl (by decide +kernel) ?_
  obtain ⟨h0, hp⟩ := hp
  refine j_cV1v g v4_86 ⟨rfl, by decide⟩ (by decide +kernel) (by decide +kernel) (Nat.le_of_ble_eq_true rfl) (rnX4_readWord_14 h0) ?_
  refine jn_X4_readWork_80  g hr hp ?_ ?_ 
  · exact hrv
  · rw [hmm]; unfold w_X4_readWork_74; rfl
noncomputable def w_X4_readWork_64 (M : Mm) (a2 : Int32) (x3 : Int32) (x4 : Int32) (x5 : Int32) : Mm := w_X4_readWork_74 (w_X4_readNumber M (0 : Int32) (999 : Int32)) a2 x3 x4 x5 (r_X4_readNumber M (0 : Int32) (999 : Int32))
def p_X4_readWork_64 (M : Mm) (a2 : Int32) (x3 : Int32) (x4 : Int32) (x5 : Int32) : Prop := (p_X4_readNumber M (0 : Int32) (999 : Int32)) ∧ p_X4_readWork_74 (w_X4_readNumber M (0 : Int32) (999 : Int32)) a2 x3 x4 x5 (r_X4_readNumber M (0 : Int32) (999 : Int32))
theorem jn_X4_readWork_64 {d : Nat} {J : Nat → Lc → List Value → Mm → Prop} {M : Mm} {a2 : Int32} {x3 : Int32} {x4 : Int32} {x5 : Int32}  (g : Good mX4_readWork.1 mX4_readWork.2.2.1 mX4_readWork.2.2.2.1 (d + 6) J) {rv : Option Value} {M1 : Mm} (hr : Ret mX4_readWork.2.2.1 mX4_readWork.2.2.2.2 rv M1 J) (hp : p_X4_readWork_64 M a2 x3 x4 x5) (hrv : rv = none) (hmm : M1 = w_X4_readWork_64 M a2 x3 x4 x5) : J 64 [some (.ref 500), some (.ref 300), some (.int a2), some (.int x3), some (.int x4), some (.int x5), none, none, none] [] M := by
  unfold p_X4_readWork_64 at hp
  refine j_aload_n g (i := 0) (by decide +kernel) rfl ?_
  refine j_iconst g (n := 0) (0) (by decide +kernel) rfl ?_
  refine j_sipush g (n := 999) (999) (by decide +kernel) (by decide +kernel) ?_
  obtain ⟨h0, hp⟩ := hp
  refine j_cV2r g v4_109 ⟨rfl, by decide⟩ (by decide +kernel) (by decide +kernel) (Nat.le_of_ble_eq_true rfl) (rnX4_readNumber h0) ?_
  refine j_istore g (i := 6) (by decide +kernel) (by decide) ?_
  dsimp only [stL, clL, hdL]
  refine jn_X4_readWork_74  g hr hp ?_ ?_ 
  · exact hrv
  · rw [hmm]; unfold w_X4_readWork_64; rfl
noncomputable def w_X4_readWork_58 (M : Mm) (a2 : Int32) (x3 : Int32) (x4 : Int32) (x5 : Int32) : Mm := w_X4_readWork_64 (w_X4_readWord_13 M) a2 x3 x4 x5
def p_X4_readWork_58 (M : Mm) (a2 : Int32) (x3 : Int32) (x4 : Int32) (x5 : Int32) : Prop := (p_X4_readWord_13 M ) ∧ p_X4_readWork_64 (w_X4_readWord_13 M) a2 x3 x4 x5
theorem jn_X4_readWork_58 {d : Nat} {J : Nat → Lc → List Value → Mm → Prop} {M : Mm} {a2 : Int32} {x3 : Int32} {x4 : Int32} {x5 : Int32}  (g : Good mX4_readWork.1 mX4_readWork.2.2.1 mX4_readWork.2.2.2.1 (d + 6) J) {rv : Option Value} {M1 : Mm} (hr : Ret mX4_readWork.2.2.1 mX4_readWork.2.2.2.2 rv M1 J) (hp : p_X4_readWork_58 M a2 x3 x4 x5) (hrv : rv = none) (hmm : M1 = w_X4_readWork_58 M a2 x3 x4 x5) : J 58 [some (.ref 500), some (.ref 300), some (.int a2), some (.int x3), some (.int x4), some (.int x5), none, none, none] [] M := by
  unfold p_X4_readWork_58 at hp
  refine j_aload_n g (i := 0) (by decide +kernel) rfl ?_
  refine j_ldcT g 13 rfl (by decide +kernel) ?_
  obtain ⟨h0, hp⟩ := hp
  refine j_cV1v g v4_86 ⟨rfl, by decide⟩ (by decide +kernel) (by decide +kernel) (Nat.le_of_ble_eq_true rfl) (rnX4_readWord_13 h0) ?_
  refine jn_X4_readWork_64  g hr hp ?_ ?_ 
  · exact hrv
  · rw [hmm]; unfold w_X4_readWork_58; rfl
noncomputable def w_X4_readWork_49 (M : Mm) (a2 : Int32) (x3 : Int32) (x4 : Int32) : Mm := w_X4_readWork_58 (w_X4_readNumber M (0 : Int32) (9 : Int32)) a2 x3 x4 (r_X4_readNumber M (0 : Int32) (9 : Int32))
def p_X4_readWork_49 (M : Mm) (a2 : Int32) (x3 : Int32) (x4 : Int32) : Prop := (p_X4_readNumber M (0 : Int32) (9 : Int32)) ∧ p_X4_readWork_58 (w_X4_readNumber M (0 : Int32) (9 : Int32)) a2 x3 x4 (r_X4_readNumber M (0 : Int32) (9 : Int32))
theorem jn_X4_readWork_49 {d : Nat} {J : Nat → Lc → List Value → Mm → Prop} {M : Mm} {a2 : Int32} {x3 : Int32} {x4 : Int32}  (g : Good mX4_readWork.1 mX4_readWork.2.2.1 mX4_readWork.2.2.2.1 (d + 6) J) {rv : Option Value} {M1 : Mm} (hr : Ret mX4_readWork.2.2.1 mX4_readWork.2.2.2.2 rv M1 J) (hp : p_X4_readWork_49 M a2 x3 x4) (hrv : rv = none) (hmm : M1 = w_X4_readWork_49 M a2 x3 x4) : J 49 [some (.ref 500), some (.ref 300), some (.int a2), some (.int x3), some (.int x4), none, none, none, none] [] M := by
  unfold p_X4_readWork_49 at hp
  refine j_aload_n g (i := 0) (by decide +kernel) rfl ?_
  refine j_iconst g (n := 0) (0) (by decide +kernel) rfl ?_
  refine j_bipush g (n := 9) (9) (by decide +kernel) (by decide +kernel) ?_
  obtain ⟨h0, hp⟩ := hp
  refine j_cV2r g v4_109 ⟨rfl, by decide⟩ (by decide +kernel) (by decide +kernel) (Nat.le_of_ble_eq_true rfl) (rnX4_readNumber h0) ?_
  refine j_istore g (i := 5) (by decide +kernel) (by decide) ?_
  dsimp only [stL, clL, hdL]
  refine jn_X4_readWork_58  g hr hp ?_ ?_ 
  · exact hrv
  · rw [hmm]; unfold w_X4_readWork_49; rfl
noncomputable def w_X4_readWork_43 (M : Mm) (a2 : Int32) (x3 : Int32) (x4 : Int32) : Mm := w_X4_readWork_49 (w_X4_readWord_12 M) a2 x3 x4
def p_X4_readWork_43 (M : Mm) (a2 : Int32) (x3 : Int32) (x4 : Int32) : Prop := (p_X4_readWord_12 M ) ∧ p_X4_readWork_49 (w_X4_readWord_12 M) a2 x3 x4
theorem jn_X4_readWork_43 {d : Nat} {J : Nat → Lc → List Value → Mm → Prop} {M : Mm} {a2 : Int32} {x3 : Int32} {x4 : Int32}  (g : Good mX4_readWork.1 mX4_readWork.2.2.1 mX4_readWork.2.2.2.1 (d + 6) J) {rv : Option Value} {M1 : Mm} (hr : Ret mX4_readWork.2.2.1 mX4_readWork.2.2.2.2 rv M1 J) (hp : p_X4_readWork_43 M a2 x3 x4) (hrv : rv = none) (hmm : M1 = w_X4_readWork_43 M a2 x3 x4) : J 43 [some (.ref 500), some (.ref 300), some (.int a2), some (.int x3), some (.int x4), none, none, none, none] [] M := by
  unfold p_X4_readWork_43 at hp
  refine j_aload_n g (i := 0) (by decide +kernel) rfl ?_
  refine j_ldcT g 12 rfl (by decide +kernel) ?_
  obtain ⟨h0, hp⟩ := hp
  refine j_cV1v g v4_86 ⟨rfl, by decide⟩ (by decide +kernel) (by decide +kernel) (Nat.le_of_ble_eq_true rfl) (rnX4_readWord_12 h0) ?_
  refine jn_X4_readWork_49  g hr hp ?_ ?_ 
  · exact hrv
  · rw [hmm]; unfold w_X4_readWork_43; rfl
noncomputable def w_X4_readWork_30 (M : Mm) (a2 : Int32) (x3 : Int32) : Mm := w_X4_readWork_43 (w_X4_readNumber M (0 : Int32) ((M.1 300 1) - 1)) a2 x3 (r_X4_readNumber M (0 : Int32) ((M.1 300 1) - 1))
def p_X4_readWork_30 (M : Mm) (a2 : Int32) (x3 : Int32) : Prop := (p_X4_readNumber M (0 : Int32) ((M.1 300 1) - 1)) ∧ p_X4_readWork_43 (w_X4_readNumber M (0 : Int32) ((M.1 300 1) - 1)) a2 x3 (r_X4_readNumber M (0 : Int32) ((M.1 300 1) - 1))
theorem jn_X4_readWork_30 {d : Nat} {J : Nat → Lc → List Value → Mm → Prop} {M : Mm} {a2 : Int32} {x3 : Int32}  (g : Good mX4_readWork.1 mX4_readWork.2.2.1 mX4_readWork.2.2.2.1 (d + 6) J) {rv : Option Value} {M1 : Mm} (hr : Ret mX4_readWork.2.2.1 mX4_readWork.2.2.2.2 rv M1 J) (hp : p_X4_readWork_30 M a2 x3) (hrv : rv = none) (hmm : M1 = w_X4_readWork_30 M a2 x3) : J 30 [some (.ref 500), some (.ref 300), some (.int a2), some (.int x3), none, none, none, none, none] [] M := by
  unfold p_X4_readWork_30 at hp
  refine j_aload_n g (i := 0) (by decide +kernel) rfl ?_
  refine j_iconst g (n := 0) (0) (by decide +kernel) rfl ?_
  refine j_aload_n g (i := 1) (by decide +kernel) rfl ?_
  refine j_gI g f4_124 (by decide +kernel) (by decide +kernel) (by decide +kernel) ?_
  refine j_iconst g (n := 1) (1) (by decide +kernel) rfl ?_
  refine j_isub g (by decide +kernel) ?_
  obtain ⟨h0, hp⟩ := hp
  refine j_cV2r g v4_109 ⟨rfl, by decide⟩ (by decide +kernel) (by decide +kernel) (Nat.le_of_ble_eq_true rfl) (rnX4_readNumber h0) ?_
  refine j_istore g (i := 4) (by decide +kernel) (by decide) ?_
  dsimp only [stL, clL, hdL]
  refine jn_X4_readWork_43  g hr hp ?_ ?_ 
  · exact hrv
  · rw [hmm]; unfold w_X4_readWork_30; rfl
noncomputable def w_X4_readWork_18 (M : Mm) (a2 : Int32)  : Mm := w_X4_readWork_30 (w_X4_readNumber M (0 : Int32) ((M.1 300 0) - 1)) a2 (r_X4_readNumber M (0 : Int32) ((M.1 300 0) - 1))
def p_X4_readWork_18 (M : Mm) (a2 : Int32)  : Prop := (p_X4_readNumber M (0 : Int32) ((M.1 300 0) - 1)) ∧ p_X4_readWork_30 (w_X4_readNumber M (0 : Int32) ((M.1 300 0) - 1)) a2 (r_X4_readNumber M (0 : Int32) ((M.1 300 0) - 1))
theorem jn_X4_readWork_18 {d : Nat} {J : Nat → Lc → List Value → Mm → Prop} {M : Mm} {a2 : Int32}   (g : Good mX4_readWork.1 mX4_readWork.2.2.1 mX4_readWork.2.2.2.1 (d + 6) J) {rv : Option Value} {M1 : Mm} (hr : Ret mX4_readWork.2.2.1 mX4_readWork.2.2.2.2 rv M1 J) (hp : p_X4_readWork_18 M a2 ) (hrv : rv = none) (hmm : M1 = w_X4_readWork_18 M a2 ) : J 18 [some (.ref 500), some (.ref 300), some (.int a2), none, none, none, none, none, none] [] M := by
  unfold p_X4_readWork_18 at hp
  refine j_aload_n g (i := 0) (by decide +kernel) rfl ?_
  refine j_iconst g (n := 0) (0) (by decide +kernel) rfl ?_
  refine j_aload_n g (i := 1) (by decide +kernel) rfl ?_
  refine j_gI g f4_118 (by decide +kernel) (by decide +kernel) (by decide +kernel) ?_
  refine j_iconst g (n := 1) (1) (by decide +kernel) rfl ?_
  refine j_isub g (by decide +kernel) ?_
  obtain ⟨h0, hp⟩ := hp
  refine j_cV2r g v4_109 ⟨rfl, by decide⟩ (by decide +kernel) (by decide +kernel) (Nat.le_of_ble_eq_true rfl) (rnX4_readNumber h0) ?_
  refine j_istore_n g (i := 3) (by decide +kernel) (by decide) ?_
  dsimp only [stL, clL, hdL]
  refine jn_X4_readWork_30  g hr hp ?_ ?_ 
  · exact hrv
  · rw [hmm]; unfold w_X4_readWork_18; rfl
noncomputable def w_X4_readWork (M : Mm) (a2 : Int32) : Mm := if (M.1 300 2) < (6 : Int32) then w_X4_readWork_18 (w_X4_advance M) a2 else (w_X4_fail M)
def p_X4_readWork (M : Mm) (a2 : Int32) : Prop := (if (M.1 300 2) < (6 : Int32) then (p_X4_advance M ) ∧ p_X4_readWork_18 (w_X4_advance M) a2 else True)
set_option maxRecDepth 20000 in
theorem rnX4_readWork {d : Nat} {M : Mm} {a2 : Int32}  (hp : p_X4_readWork M a2) : Rn (d + 6) mX4_readWork [.ref 500, .ref 300, .int a2] M none (w_X4_readWork M a2) := by
  refine Rn.of [some (.ref 500), some (.ref 300), some (.int a2), none, none, none, none, none, none] (by decide +kernel) rfl (Nat.le_of_ble_eq_true rfl) rfl (fun J g hr => ?_)
  unfold p_X4_readWork at hp
  refine j_aload_n g (i := 1) (by decide +kernel) rfl ?_
  refine j_gI g f4_130 (by decide +kernel) (by decide +kernel) (by decide +kernel) ?_
  refine j_bipush g (n := 6) (6) (by decide +kernel) (by decide +kernel) ?_
  refine j_icmp_lt g (off := 8) (tgt := 14) (by decide +kernel) (by decide) (fun c6 => ?_) (fun c6 => ?_)
  · rw [if_pos (show (M.1 300 2) < (6 : Int32) from c6)] at hp
    refine j_aload_n g (i := 0) (by decide +kernel) rfl ?_
    obtain ⟨h0, hp⟩ := hp
    refine j_cV0v g v4_31 ⟨rfl, by decide⟩ (by decide +kernel) (by decide +kernel) (Nat.le_of_ble_eq_true rfl) (rnX4_advance h0) ?_
    refine jn_X4_readWork_18  g hr hp ?_ ?_ 
    · rfl
    · unfold w_X4_readWork; first | (simp only [if_pos (show (M.1 300 2) < (6 : Int32) from c6)]; done) | (simp only [if_pos (show (M.1 300 2) < (6 : Int32) from c6)]; rfl) | rfl
  · rw [if_neg (show ¬ ((M.1 300 2) < (6 : Int32)) from c6)] at hp
    refine j_aload_n g (i := 0) (by decide +kernel) rfl ?_
    refine j_cV0v g v4_55 ⟨rfl, by decide⟩ (by decide +kernel) (by decide +kernel) (Nat.le_of_ble_eq_true rfl) (rnX4_fail) ?_
    refine hr.2.2.2 _ _ _ (by decide +kernel) rfl rfl ?_
    · unfold w_X4_readWork; first | (simp only [if_neg (show ¬ ((M.1 300 2) < (6 : Int32)) from c6)]; done) | (simp only [if_neg (show ¬ ((M.1 300 2) < (6 : Int32)) from c6)]; rfl) | rfl
noncomputable def w_X4_readSentence_128 (M : Mm)  (x2 : Int32) : Mm := (w_X4_readWord_5 M)
def p_X4_readSentence_128 (M : Mm)  (x2 : Int32) : Prop := (p_X4_readWord_5 M ) ∧ True
theorem jn_X4_readSentence_128 {d : Nat} {J : Nat → Lc → List Value → Mm → Prop} {M : Mm}  {x2 : Int32}  (g : Good mX4_readSentence.1 mX4_readSentence.2.2.1 mX4_readSentence.2.2.2.1 (d + 7) J) {rv : Option Value} {M1 : Mm} (hr : Ret mX4_readSentence.2.2.1 mX4_readSentence.2.2.2.2 rv M1 J) (hp : p_X4_readSentence_128 M  x2) (hrv : rv = none) (hmm : M1 = w_X4_readSentence_128 M  x2) : J 128 [some (.ref 500), some (.ref 300), some (.int x2)] [] M := by
  unfold p_X4_readSentence_128 at hp
  refine j_aload_n g (i := 0) (by decide +kernel) rfl ?_
  refine j_ldcT g 5 rfl (by decide +kernel) ?_
  obtain ⟨h0, hp⟩ := hp
  refine j_cV1v g v4_86 ⟨rfl, by decide⟩ (by decide +kernel) (by decide +kernel) (Nat.le_of_ble_eq_true rfl) (rnX4_readWord_5 h0) ?_
  refine hr.2.2.2 _ _ _ (by decide +kernel) rfl hrv ?_
  · rw [hmm]; unfold w_X4_readSentence_128; rfl
noncomputable def w_X4_readSentence_115 (M : Mm)  (x2 : Int32) : Mm := w_X4_readSentence_128 (w_X4_readLaw M (3 : Int32))  x2
def p_X4_readSentence_115 (M : Mm)  (x2 : Int32) : Prop := (p_X4_readLaw M (3 : Int32)) ∧ p_X4_readSentence_128 (w_X4_readLaw M (3 : Int32))  x2
theorem jn_X4_readSentence_115 {d : Nat} {J : Nat → Lc → List Value → Mm → Prop} {M : Mm}  {x2 : Int32}  (g : Good mX4_readSentence.1 mX4_readSentence.2.2.1 mX4_readSentence.2.2.2.1 (d + 7) J) {rv : Option Value} {M1 : Mm} (hr : Ret mX4_readSentence.2.2.1 mX4_readSentence.2.2.2.2 rv M1 J) (hp : p_X4_readSentence_115 M  x2) (hrv : rv = none) (hmm : M1 = w_X4_readSentence_115 M  x2) : J 115 [some (.ref 500), some (.ref 300), some (.int x2)] [] M := by
  unfold p_X4_readSentence_115 at hp
  refine j_aload_n g (i := 0) (by decide +kernel) rfl ?_
  refine j_aload_n g (i := 1) (by decide +kernel) rfl ?_
  refine j_iconst g (n := 3) (3) (by decide +kernel) rfl ?_
  obtain ⟨h0, hp⟩ := hp
  refine j_cV2v g v4_77 ⟨rfl, by decide⟩ (by decide +kernel) (by decide +kernel) (Nat.le_of_ble_eq_true rfl) (rnX4_readLaw h0) ?_
  refine j_goto g (off := 7) (tgt := 128) (by decide +kernel) (by decide) ?_
  refine jn_X4_readSentence_128  g hr hp ?_ ?_ 
  · exact hrv
  · rw [hmm]; unfold w_X4_readSentence_115; rfl
noncomputable def w_X4_readSentence_93 (M : Mm)  (x2 : Int32) : Mm := w_X4_readSentence_128 (w_X4_readLaw M (2 : Int32))  x2
def p_X4_readSentence_93 (M : Mm)  (x2 : Int32) : Prop := (p_X4_readLaw M (2 : Int32)) ∧ p_X4_readSentence_128 (w_X4_readLaw M (2 : Int32))  x2
theorem jn_X4_readSentence_93 {d : Nat} {J : Nat → Lc → List Value → Mm → Prop} {M : Mm}  {x2 : Int32}  (g : Good mX4_readSentence.1 mX4_readSentence.2.2.1 mX4_readSentence.2.2.2.1 (d + 7) J) {rv : Option Value} {M1 : Mm} (hr : Ret mX4_readSentence.2.2.1 mX4_readSentence.2.2.2.2 rv M1 J) (hp : p_X4_readSentence_93 M  x2) (hrv : rv = none) (hmm : M1 = w_X4_readSentence_93 M  x2) : J 93 [some (.ref 500), some (.ref 300), some (.int x2)] [] M := by
  unfold p_X4_readSentence_93 at hp
  refine j_aload_n g (i := 0) (by decide +kernel) rfl ?_
  refine j_aload_n g (i := 1) (by decide +kernel) rfl ?_
  refine j_iconst g (n := 2) (2) (by decide +kernel) rfl ?_
  obtain ⟨h0, hp⟩ := hp
  refine j_cV2v g v4_77 ⟨rfl, by decide⟩ (by decide +kernel) (by decide +kernel) (Nat.le_of_ble_eq_true rfl) (rnX4_readLaw h0) ?_
  refine j_goto g (off := 29) (tgt := 128) (by decide +kernel) (by decide) ?_
  refine jn_X4_readSentence_128  g hr hp ?_ ?_ 
  · exact hrv
  · rw [hmm]; unfold w_X4_readSentence_93; rfl
noncomputable def w_X4_readSentence_87 (M : Mm)  (x2 : Int32) : Mm := w_X4_readSentence_93 (w_X4_readLaw M (1 : Int32))  x2
def p_X4_readSentence_87 (M : Mm)  (x2 : Int32) : Prop := (p_X4_readLaw M (1 : Int32)) ∧ p_X4_readSentence_93 (w_X4_readLaw M (1 : Int32))  x2
theorem jn_X4_readSentence_87 {d : Nat} {J : Nat → Lc → List Value → Mm → Prop} {M : Mm}  {x2 : Int32}  (g : Good mX4_readSentence.1 mX4_readSentence.2.2.1 mX4_readSentence.2.2.2.1 (d + 7) J) {rv : Option Value} {M1 : Mm} (hr : Ret mX4_readSentence.2.2.1 mX4_readSentence.2.2.2.2 rv M1 J) (hp : p_X4_readSentence_87 M  x2) (hrv : rv = none) (hmm : M1 = w_X4_readSentence_87 M  x2) : J 87 [some (.ref 500), some (.ref 300), some (.int x2)] [] M := by
  unfold p_X4_readSentence_87 at hp
  refine j_aload_n g (i := 0) (by decide +kernel) rfl ?_
  refine j_aload_n g (i := 1) (by decide +kernel) rfl ?_
  refine j_iconst g (n := 1) (1) (by decide +kernel) rfl ?_
  obtain ⟨h0, hp⟩ := hp
  refine j_cV2v g v4_77 ⟨rfl, by decide⟩ (by decide +kernel) (by decide +kernel) (Nat.le_of_ble_eq_true rfl) (rnX4_readLaw h0) ?_
  refine jn_X4_readSentence_93  g hr hp ?_ ?_ 
  · exact hrv
  · rw [hmm]; unfold w_X4_readSentence_87; rfl
noncomputable def w_X4_readSentence_65 (M : Mm)  (x2 : Int32) : Mm := w_X4_readSentence_128 (w_X4_readLaw M (0 : Int32))  x2
def p_X4_readSentence_65 (M : Mm)  (x2 : Int32) : Prop := (p_X4_readLaw M (0 : Int32)) ∧ p_X4_readSentence_128 (w_X4_readLaw M (0 : Int32))  x2
theorem jn_X4_readSentence_65 {d : Nat} {J : Nat → Lc → List Value → Mm → Prop} {M : Mm}  {x2 : Int32}  (g : Good mX4_readSentence.1 mX4_readSentence.2.2.1 mX4_readSentence.2.2.2.1 (d + 7) J) {rv : Option Value} {M1 : Mm} (hr : Ret mX4_readSentence.2.2.1 mX4_readSentence.2.2.2.2 rv M1 J) (hp : p_X4_readSentence_65 M  x2) (hrv : rv = none) (hmm : M1 = w_X4_readSentence_65 M  x2) : J 65 [some (.ref 500), some (.ref 300), some (.int x2)] [] M := by
  unfold p_X4_readSentence_65 at hp
  refine j_aload_n g (i := 0) (by decide +kernel) rfl ?_
  refine j_aload_n g (i := 1) (by decide +kernel) rfl ?_
  refine j_iconst g (n := 0) (0) (by decide +kernel) rfl ?_
  obtain ⟨h0, hp⟩ := hp
  refine j_cV2v g v4_77 ⟨rfl, by decide⟩ (by decide +kernel) (by decide +kernel) (Nat.le_of_ble_eq_true rfl) (rnX4_readLaw h0) ?_
  refine j_goto g (off := 57) (tgt := 128) (by decide +kernel) (by decide) ?_
  refine jn_X4_readSentence_128  g hr hp ?_ ?_ 
  · exact hrv
  · rw [hmm]; unfold w_X4_readSentence_65; rfl
noncomputable def w_X4_readSentence (M : Mm)  : Mm := if (r_X4_kindTold M) < 0 then (if (r_X4_isWord M 0) = 0 then (if (r_X4_isWord M 1) = 0 then (if (r_X4_isWord M 2) = 0 then (if (r_X4_isWord M 3) = 0 then (if (r_X4_isWord M 4) = 0 then w_X4_readSentence_128 (w_X4_fail M)  (r_X4_kindTold M) else w_X4_readSentence_115 (w_X4_advance M)  (r_X4_kindTold M)) else w_X4_readSentence_87 (w_X4_advance M)  (r_X4_kindTold M)) else w_X4_readSentence_65 (w_X4_advance M)  (r_X4_kindTold M)) else w_X4_readSentence_128 (w_X4_readThing M)  (r_X4_kindTold M)) else w_X4_readSentence_128 (w_X4_readMover M)  (r_X4_kindTold M)) else w_X4_readSentence_128 (w_X4_readWork M (r_X4_kindTold M))  (r_X4_kindTold M)
def p_X4_readSentence (M : Mm)  : Prop := (p_X4_kindTold M ) ∧ (if (r_X4_kindTold M) < 0 then (p_X4_isWord M 0) ∧ (if (r_X4_isWord M 0) = 0 then (p_X4_isWord M 1) ∧ (if (r_X4_isWord M 1) = 0 then (p_X4_isWord M 2) ∧ (if (r_X4_isWord M 2) = 0 then (p_X4_isWord M 3) ∧ (if (r_X4_isWord M 3) = 0 then (p_X4_isWord M 4) ∧ (if (r_X4_isWord M 4) = 0 then p_X4_readSentence_128 (w_X4_fail M)  (r_X4_kindTold M) else (p_X4_advance M ) ∧ p_X4_readSentence_115 (w_X4_advance M)  (r_X4_kindTold M)) else (p_X4_advance M ) ∧ p_X4_readSentence_87 (w_X4_advance M)  (r_X4_kindTold M)) else (p_X4_advance M ) ∧ p_X4_readSentence_65 (w_X4_advance M)  (r_X4_kindTold M)) else (p_X4_readThing M ) ∧ p_X4_readSentence_128 (w_X4_readThing M)  (r_X4_kindTold M)) else (p_X4_readMover M ) ∧ p_X4_readSentence_128 (w_X4_readMover M)  (r_X4_kindTold M)) else (p_X4_readWork M (r_X4_kindTold M)) ∧ p_X4_readSentence_128 (w_X4_readWork M (r_X4_kindTold M))  (r_X4_kindTold M))
set_option maxRecDepth 20000 in
theorem rnX4_readSentence {d : Nat} {M : Mm}   (hp : p_X4_readSentence M ) : Rn (d + 7) mX4_readSentence [.ref 500, .ref 300] M none (w_X4_readSentence M ) := by
  refine Rn.of [some (.ref 500), some (.ref 300), none] (by decide +kernel) rfl (Nat.le_of_ble_eq_true rfl) rfl (fun J g hr => ?_)
  unfold p_X4_readSentence at hp
  refine j_aload_n g (i := 0) (by decide +kernel) rfl ?_
  obtain ⟨h0, hp⟩ := hp
  refine j_cV0r g v4_58 ⟨rfl, by decide⟩ (by decide +kernel) (by decide +kernel) (Nat.le_of_ble_eq_true rfl) (rnX4_kindTold h0) ?_
  refine j_istore_n g (i := 2) (by decide +kernel) (by decide) ?_
  dsimp only [stL, clL, hdL]
  refine j_iload_n g (i := 2) (by decide +kernel) rfl ?_
  refine j_if_lt g (off := 12) (tgt := 18) (by decide +kernel) (by decide) (fun c6 => ?_) (fun c6 => ?_)
  · rw [if_pos (show (r_X4_kindTold M) < 0 from c6)] at hp
    refine j_aload_n g (i := 0) (by decide +kernel) rfl ?_
    refine j_ldcT g 0 rfl (by decide +kernel) ?_
    obtain ⟨h0, hp⟩ := hp
    refine j_cV1r g v4_51 ⟨rfl, by decide⟩ (by decide +kernel) (by decide +kernel) (Nat.le_of_ble_eq_true rfl) (rnX4_isWord (i := 0) (by decide) h0) ?_
    refine j_if_eq g (off := 11) (tgt := 35) (by decide +kernel) (by decide) (fun c24 => ?_) (fun c24 => ?_)
    · rw [if_pos (show (r_X4_isWord M 0) = 0 from c24)] at hp
      refine j_aload_n g (i := 0) (by decide +kernel) rfl ?_
      refine j_ldcT g 1 rfl (by decide +kernel) ?_
      obtain ⟨h0, hp⟩ := hp
      refine j_cV1r g v4_51 ⟨rfl, by decide⟩ (by decide +kernel) (by decide +kernel) (Nat.le_of_ble_eq_true rfl) (rnX4_isWord (i := 1) (by decide) h0) ?_
      refine j_if_eq g (off := 11) (tgt := 52) (by decide +kernel) (by decide) (fun c41 => ?_) (fun c41 => ?_)
      · rw [if_pos (show (r_X4_isWord M 1) = 0 from c41)] at hp
        refine j_aload_n g (i := 0) (by decide +kernel) rfl ?_
        refine j_ldcT g 2 rfl (by decide +kernel) ?_
        obtain ⟨h0, hp⟩ := hp
        refine j_cV1r g v4_51 ⟨rfl, by decide⟩ (by decide +kernel) (by decide +kernel) (Nat.le_of_ble_eq_true rfl) (rnX4_isWord (i := 2) (by decide) h0) ?_
        refine j_if_eq g (off := 16) (tgt := 74) (by decide +kernel) (by decide) (fun c58 => ?_) (fun c58 => ?_)
        · rw [if_pos (show (r_X4_isWord M 2) = 0 from c58)] at hp
          refine j_aload_n g (i := 0) (by decide +kernel) rfl ?_
          refine j_ldcT g 3 rfl (by decide +kernel) ?_
          obtain ⟨h0, hp⟩ := hp
          refine j_cV1r g v4_51 ⟨rfl, by decide⟩ (by decide +kernel) (by decide +kernel) (Nat.le_of_ble_eq_true rfl) (rnX4_isWord (i := 3) (by decide) h0) ?_
          refine j_if_eq g (off := 22) (tgt := 102) (by decide +kernel) (by decide) (fun c80 => ?_) (fun c80 => ?_)
          · rw [if_pos (show (r_X4_isWord M 3) = 0 from c80)] at hp
            refine j_aload_n g (i := 0) (by decide +kernel) rfl ?_
            refine j_ldcT g 4 rfl (by decide +kernel) ?_
            obtain ⟨h0, hp⟩ := hp
            refine j_cV1r g v4_51 ⟨rfl, by decide⟩ (by decide +kernel) (by decide +kernel) (Nat.le_of_ble_eq_true rfl) (rnX4_isWord (i := 4) (by decide) h0) ?_
            refine j_if_eq g (off := 16) (tgt := 124) (by decide +kernel) (by decide) (fun c108 => ?_) (fun c108 => ?_)
            · rw [if_pos (show (r_X4_isWord M 4) = 0 from c108)] at hp
              refine j_aload_n g (i := 0) (by decide +kernel) rfl ?_
              refine j_cV0v g v4_55 ⟨rfl, by decide⟩ (by decide +kernel) (by decide +kernel) (Nat.le_of_ble_eq_true rfl) (rnX4_fail) ?_
              refine jn_X4_readSentence_128  g hr hp ?_ ?_ 
              · rfl
              · unfold w_X4_readSentence; first | (simp only [if_pos (show (r_X4_kindTold M) < 0 from c6), if_pos (show (r_X4_isWord M 0) = 0 from c24), if_pos (show (r_X4_isWord M 1) = 0 from c41), if_pos (show (r_X4_isWord M 2) = 0 from c58), if_pos (show (r_X4_isWord M 3) = 0 from c80), if_pos (show (r_X4_isWord M 4) = 0 from c108)]; done) | (simp only [if_pos (show (r_X4_kindTold M) < 0 from c6), if_pos (show (r_X4_isWord M 0) = 0 from c24), if_pos (show (r_X4_isWord M 1) = 0 from c41), if_pos (show (r_X4_isWord M 2) = 0 from c58), if_pos (show (r_X4_isWord M 3) = 0 from c80), if_pos (show (r_X4_isWord M 4) = 0 from c108)]; rfl) | rfl
            · rw [if_neg (show ¬ ((r_X4_isWord M 4) = 0) from c108)] at hp
              refine j_aload_n g (i := 0) (by decide +kernel) rfl ?_
              obtain ⟨h0, hp⟩ := hp
              refine j_cV0v g v4_31 ⟨rfl, by decide⟩ (by decide +kernel) (by decide +kernel) (Nat.le_of_ble_eq_true rfl) (rnX4_advance h0) ?_
              refine jn_X4_readSentence_115  g hr hp ?_ ?_ 
              · rfl
              · unfold w_X4_readSentence; first | (simp only [if_pos (show (r_X4_kindTold M) < 0 from c6), if_pos (show (r_X4_isWord M 0) = 0 from c24), if_pos (show (r_X4_isWord M 1) = 0 from c41), if_pos (show (r_X4_isWord M 2) = 0 from c58), if_pos (show (r_X4_isWord M 3) = 0 from c80), if_neg (show ¬ ((r_X4_isWord M 4) = 0) from c108)]; done) | (simp only [if_pos (show (r_X4_kindTold M) < 0 from c6), if_pos (show (r_X4_isWord M 0) = 0 from c24), if_pos (show (r_X4_isWord M 1) = 0 from c41), if_pos (show (r_X4_isWord M 2) = 0 from c58), if_pos (show (r_X4_isWord M 3) = 0 from c80), if_neg (show ¬ ((r_X4_isWord M 4) = 0) from c108)]; rfl) | rfl
          · rw [if_neg (show ¬ ((r_X4_isWord M 3) = 0) from c80)] at hp
            refine j_aload_n g (i := 0) (by decide +kernel) rfl ?_
            obtain ⟨h0, hp⟩ := hp
            refine j_cV0v g v4_31 ⟨rfl, by decide⟩ (by decide +kernel) (by decide +kernel) (Nat.le_of_ble_eq_true rfl) (rnX4_advance h0) ?_
            refine jn_X4_readSentence_87  g hr hp ?_ ?_ 
            · rfl
            · unfold w_X4_readSentence; first | (simp only [if_pos (show (r_X4_kindTold M) < 0 from c6), if_pos (show (r_X4_isWord M 0) = 0 from c24), if_pos (show (r_X4_isWord M 1) = 0 from c41), if_pos (show (r_X4_isWord M 2) = 0 from c58), if_neg (show ¬ ((r_X4_isWord M 3) = 0) from c80)]; done) | (simp only [if_pos (show (r_X4_kindTold M) < 0 from c6), if_pos (show (r_X4_isWord M 0) = 0 from c24), if_pos (show (r_X4_isWord M 1) = 0 from c41), if_pos (show (r_X4_isWord M 2) = 0 from c58), if_neg (show ¬ ((r_X4_isWord M 3) = 0) from c80)]; rfl) | rfl
        · rw [if_neg (show ¬ ((r_X4_isWord M 2) = 0) from c58)] at hp
          refine j_aload_n g (i := 0) (by decide +kernel) rfl ?_
          obtain ⟨h0, hp⟩ := hp
          refine j_cV0v g v4_31 ⟨rfl, by decide⟩ (by decide +kernel) (by decide +kernel) (Nat.le_of_ble_eq_true rfl) (rnX4_advance h0) ?_
          refine jn_X4_readSentence_65  g hr hp ?_ ?_ 
          · rfl
          · unfold w_X4_readSentence; first | (simp only [if_pos (show (r_X4_kindTold M) < 0 from c6), if_pos (show (r_X4_isWord M 0) = 0 from c24), if_pos (show (r_X4_isWord M 1) = 0 from c41), if_neg (show ¬ ((r_X4_isWord M 2) = 0) from c58)]; done) | (simp only [if_pos (show (r_X4_kindTold M) < 0 from c6), if_pos (show (r_X4_isWord M 0) = 0 from c24), if_pos (show (r_X4_isWord M 1) = 0 from c41), if_neg (show ¬ ((r_X4_isWord M 2) = 0) from c58)]; rfl) | rfl
      · rw [if_neg (show ¬ ((r_X4_isWord M 1) = 0) from c41)] at hp
        refine j_aload_n g (i := 0) (by decide +kernel) rfl ?_
        refine j_aload_n g (i := 1) (by decide +kernel) rfl ?_
        obtain ⟨h0, hp⟩ := hp
        refine j_cV1v g v4_72 ⟨rfl, by decide⟩ (by decide +kernel) (by decide +kernel) (Nat.le_of_ble_eq_true rfl) (rnX4_readThing h0) ?_
        refine j_goto g (off := 79) (tgt := 128) (by decide +kernel) (by decide) ?_
        refine jn_X4_readSentence_128  g hr hp ?_ ?_ 
        · rfl
        · unfold w_X4_readSentence; first | (simp only [if_pos (show (r_X4_kindTold M) < 0 from c6), if_pos (show (r_X4_isWord M 0) = 0 from c24), if_neg (show ¬ ((r_X4_isWord M 1) = 0) from c41)]; done) | (simp only [if_pos (show (r_X4_kindTold M) < 0 from c6), if_pos (show (r_X4_isWord M 0) = 0 from c24), if_neg (show ¬ ((r_X4_isWord M 1) = 0) from c41)]; rfl) | rfl
    · rw [if_neg (show ¬ ((r_X4_isWord M 0) = 0) from c24)] at hp
      refine j_aload_n g (i := 0) (by decide +kernel) rfl ?_
      refine j_aload_n g (i := 1) (by decide +kernel) rfl ?_
      obtain ⟨h0, hp⟩ := hp
      refine j_cV1v g v4_67 ⟨rfl, by decide⟩ (by decide +kernel) (by decide +kernel) (Nat.le_of_ble_eq_true rfl) (rnX4_readMover h0) ?_
      refine j_goto g (off := 96) (tgt := 128) (by decide +kernel) (by decide) ?_
      refine jn_X4_readSentence_128  g hr hp ?_ ?_ 
      · rfl
      · unfold w_X4_readSentence; first | (simp only [if_pos (show (r_X4_kindTold M) < 0 from c6), if_neg (show ¬ ((r_X4_isWord M 0) = 0) from c24)]; done) | (simp only [if_pos (show (r_X4_kindTold M) < 0 from c6), if_neg (show ¬ ((r_X4_isWord M 0) = 0) from c24)]; rfl) | rfl
  · rw [if_neg (show ¬ ((r_X4_kindTold M) < 0) from c6)] at hp
    refine j_aload_n g (i := 0) (by decide +kernel) rfl ?_
    refine j_aload_n g (i := 1) (by decide +kernel) rfl ?_
    refine j_iload_n g (i := 2) (by decide +kernel) rfl ?_
    obtain ⟨h0, hp⟩ := hp
    refine j_cV2v g v4_61 ⟨rfl, by decide⟩ (by decide +kernel) (by decide +kernel) (Nat.le_of_ble_eq_true rfl) (rnX4_readWork h0) ?_
    refine j_goto g (off := 113) (tgt := 128) (by decide +kernel) (by decide) ?_
    refine jn_X4_readSentence_128  g hr hp ?_ ?_ 
    · rfl
    · unfold w_X4_readSentence; first | (simp only [if_neg (show ¬ ((r_X4_kindTold M) < 0) from c6)]; done) | (simp only [if_neg (show ¬ ((r_X4_kindTold M) < 0) from c6)]; rfl) | rfl
def c_X4_readInto_16  (σ : Mm × Int32) : Prop := if (240 : Int32) ≤ σ.2 then False else if (σ.1.1 500 2) = 0 then False else if 0 ≤ (σ.1.1 500 5) then False else True
theorem ci_X4_readInto_16   {σ : Mm × Int32} : c_X4_readInto_16  σ ↔ (if (240 : Int32) ≤ σ.2 then False else if (σ.1.1 500 2) = 0 then False else if 0 ≤ (σ.1.1 500 5) then False else True) := Iff.rfl
noncomputable def s_X4_readInto_16  (σ : Mm × Int32) : Mm × Int32 := if (240 : Int32) ≤ σ.2 then σ else if (σ.1.1 500 2) = 0 then σ else if 0 ≤ (σ.1.1 500 5) then σ else ((w_X4_readSentence σ.1), σ.2 + 1)
def q_X4_readInto_16  (σ : Mm × Int32) : Prop := (if (240 : Int32) ≤ σ.2 then True else (if (σ.1.1 500 2) = 0 then True else (if 0 ≤ (σ.1.1 500 5) then True else (p_X4_readSentence σ.1 ) ∧ True)))
noncomputable def l_X4_readInto_16  (σ0 : Mm × Int32) : Nat → Mm × Int32 := itN (fun _ σ => s_X4_readInto_16  σ) σ0
theorem ps_X4_readInto_16 {d : Nat} {J : Nat → Lc → List Value → Mm → Prop}   {σ : Mm × Int32}  (g : Good mX4_readInto.1 mX4_readInto.2.2.1 mX4_readInto.2.2.2.1 (d + 8) J) (hc : c_X4_readInto_16  σ) (hp : q_X4_readInto_16  σ) (k : J 16 [some (.ref 500), some (.ref 300), some (.int ((s_X4_readInto_16  σ).2))] [] ((s_X4_readInto_16  σ).1)) : J 16 [some (.ref 500), some (.ref 300), some (.int σ.2)] [] σ.1 := by
  unfold c_X4_readInto_16 at hc
  unfold q_X4_readInto_16 at hp
  unfold s_X4_readInto_16 at k
  refine j_iload_n g (i := 2) (by decide +kernel) rfl ?_
  refine j_sipush g (n := 240) (240) (by decide +kernel) (by decide +kernel) ?_
  refine j_icmp_ge g (off := 28) (tgt := 48) (by decide +kernel) (by decide) (fun c20 => ?_) (fun c20 => ?_)
  · (try rw [if_pos (show (240 : Int32) ≤ σ.2 from c20)] at hc); (rw [if_pos (show (240 : Int32) ≤ σ.2 from c20)] at hp); (try simp only [if_pos (show (240 : Int32) ≤ σ.2 from c20)] at k)
    exact hc.elim
  · (try rw [if_neg (show ¬ ((240 : Int32) ≤ σ.2) from c20)] at hc); (rw [if_neg (show ¬ ((240 : Int32) ≤ σ.2) from c20)] at hp); (try simp only [if_neg (show ¬ ((240 : Int32) ≤ σ.2) from c20)] at k)
    refine j_aload_n g (i := 0) (by decide +kernel) rfl ?_
    refine j_gI g f4_19 (by decide +kernel) (by decide +kernel) (by decide +kernel) ?_
    refine j_if_eq g (off := 21) (tgt := 48) (by decide +kernel) (by decide) (fun c27 => ?_) (fun c27 => ?_)
    · (try rw [if_pos (show (σ.1.1 500 2) = 0 from c27)] at hc); (rw [if_pos (show (σ.1.1 500 2) = 0 from c27)] at hp); (try simp only [if_pos (show (σ.1.1 500 2) = 0 from c27)] at k)
      exact hc.elim
    · (try rw [if_neg (show ¬ ((σ.1.1 500 2) = 0) from c27)] at hc); (rw [if_neg (show ¬ ((σ.1.1 500 2) = 0) from c27)] at hp); (try simp only [if_neg (show ¬ ((σ.1.1 500 2) = 0) from c27)] at k)
      refine j_aload_n g (i := 0) (by decide +kernel) rfl ?_
      refine j_gI g f4_28 (by decide +kernel) (by decide +kernel) (by decide +kernel) ?_
      refine j_if_ge g (off := 14) (tgt := 48) (by decide +kernel) (by decide) (fun c34 => ?_) (fun c34 => ?_)
      · (try rw [if_pos (show 0 ≤ (σ.1.1 500 5) from c34)] at hc); (rw [if_pos (show 0 ≤ (σ.1.1 500 5) from c34)] at hp); (try simp only [if_pos (show 0 ≤ (σ.1.1 500 5) from c34)] at k)
        exact hc.elim
      · (try rw [if_neg (show ¬ (0 ≤ (σ.1.1 500 5)) from c34)] at hc); (rw [if_neg (show ¬ (0 ≤ (σ.1.1 500 5)) from c34)] at hp); (try simp only [if_neg (show ¬ (0 ≤ (σ.1.1 500 5)) from c34)] at k)
        refine j_aload_n g (i := 0) (by decide +kernel) rfl ?_
        refine j_aload_n g (i := 1) (by decide +kernel) rfl ?_
        obtain ⟨h0, hp⟩ := hp
        refine j_cV1v g v4_34 ⟨rfl, by decide⟩ (by decide +kernel) (by decide +kernel) (Nat.le_of_ble_eq_true rfl) (rnX4_readSentence h0) ?_
        refine j_iinc g (i := 2) (n := 1) (1) (by decide +kernel) rfl (by decide) rfl ?_
        dsimp only [stL, clL, hdL]
        refine j_goto g (off := -29) (tgt := 16) (by decide +kernel) (by decide) ?_
        exact k 
theorem sh_X4_readInto_16 {d : Nat} {J : Nat → Lc → List Value → Mm → Prop}   {σ0 : Mm × Int32}  (g : Good mX4_readInto.1 mX4_readInto.2.2.1 mX4_readInto.2.2.2.1 (d + 8) J) : ∀ (N : Nat), (∀ k, k < N → c_X4_readInto_16  (l_X4_readInto_16  σ0 k)) → (∀ k, k < N → q_X4_readInto_16  (l_X4_readInto_16  σ0 k)) → (J 16 [some (.ref 500), some (.ref 300), some (.int ((l_X4_readInto_16  σ0 N).2))] [] ((l_X4_readInto_16  σ0 N).1)) → J 16 [some (.ref 500), some (.ref 300), some (.int σ0.2)] [] σ0.1
  | 0, _, _, k => k
  | N + 1, hc, hp, k => sh_X4_readInto_16  g N (fun i hi => hc i (Nat.lt_succ_of_lt hi)) (fun i hi => hp i (Nat.lt_succ_of_lt hi)) (ps_X4_readInto_16  g (hc N (Nat.lt_succ_self N)) (hp N (Nat.lt_succ_self N)) k)
noncomputable def r_X4_readInto_14 (M : Mm)   : Int32 := if (240 : Int32) ≤ ((l_X4_readInto_16  (M, 0) (cntN (fun k => c_X4_readInto_16  (l_X4_readInto_16  (M, 0) k)) 241)).2) then (l_X4_readInto_16  (M, 0) (cntN (fun k => c_X4_readInto_16  (l_X4_readInto_16  (M, 0) k)) 241)).1.1 500 5 else if ((l_X4_readInto_16  (M, 0) (cntN (fun k => c_X4_readInto_16  (l_X4_readInto_16  (M, 0) k)) 241)).1.1 500 2) = 0 then (l_X4_readInto_16  (M, 0) (cntN (fun k => c_X4_readInto_16  (l_X4_readInto_16  (M, 0) k)) 241)).1.1 500 5 else if 0 ≤ ((l_X4_readInto_16  (M, 0) (cntN (fun k => c_X4_readInto_16  (l_X4_readInto_16  (M, 0) k)) 241)).1.1 500 5) then (l_X4_readInto_16  (M, 0) (cntN (fun k => c_X4_readInto_16  (l_X4_readInto_16  (M, 0) k)) 241)).1.1 500 5 else 0
noncomputable def w_X4_readInto_14 (M : Mm)   : Mm := if (240 : Int32) ≤ ((l_X4_readInto_16  (M, 0) (cntN (fun k => c_X4_readInto_16  (l_X4_readInto_16  (M, 0) k)) 241)).2) then (l_X4_readInto_16  (M, 0) (cntN (fun k => c_X4_readInto_16  (l_X4_readInto_16  (M, 0) k)) 241)).1 else if ((l_X4_readInto_16  (M, 0) (cntN (fun k => c_X4_readInto_16  (l_X4_readInto_16  (M, 0) k)) 241)).1.1 500 2) = 0 then (l_X4_readInto_16  (M, 0) (cntN (fun k => c_X4_readInto_16  (l_X4_readInto_16  (M, 0) k)) 241)).1 else if 0 ≤ ((l_X4_readInto_16  (M, 0) (cntN (fun k => c_X4_readInto_16  (l_X4_readInto_16  (M, 0) k)) 241)).1.1 500 5) then (l_X4_readInto_16  (M, 0) (cntN (fun k => c_X4_readInto_16  (l_X4_readInto_16  (M, 0) k)) 241)).1 else M
def p_X4_readInto_14 (M : Mm)   : Prop := (∀ k, k < (cntN (fun k => c_X4_readInto_16  (l_X4_readInto_16  (M, 0) k)) 241) → c_X4_readInto_16  (l_X4_readInto_16  (M, 0) k)) ∧ (∀ k, k < (cntN (fun k => c_X4_readInto_16  (l_X4_readInto_16  (M, 0) k)) 241) → q_X4_readInto_16  (l_X4_readInto_16  (M, 0) k)) ∧ (¬ c_X4_readInto_16  (l_X4_readInto_16  (M, 0) (cntN (fun k => c_X4_readInto_16  (l_X4_readInto_16  (M, 0) k)) 241))) ∧ (if (240 : Int32) ≤ ((l_X4_readInto_16  (M, 0) (cntN (fun k => c_X4_readInto_16  (l_X4_readInto_16  (M, 0) k)) 241)).2) then True else (if ((l_X4_readInto_16  (M, 0) (cntN (fun k => c_X4_readInto_16  (l_X4_readInto_16  (M, 0) k)) 241)).1.1 500 2) = 0 then True else (if 0 ≤ ((l_X4_readInto_16  (M, 0) (cntN (fun k => c_X4_readInto_16  (l_X4_readInto_16  (M, 0) k)) 241)).1.1 500 5) then True else True)))
theorem jn_X4_readInto_14 {d : Nat} {J : Nat → Lc → List Value → Mm → Prop} {M : Mm}    (g : Good mX4_readInto.1 mX4_readInto.2.2.1 mX4_readInto.2.2.2.1 (d + 8) J) {rv : Option Value} {M1 : Mm} (hr : Ret mX4_readInto.2.2.1 mX4_readInto.2.2.2.2 rv M1 J) (hp : p_X4_readInto_14 M  ) (hrv : rv = some (.int (r_X4_readInto_14 M  ))) (hmm : M1 = w_X4_readInto_14 M  ) : J 14 [some (.ref 500), some (.ref 300), none] [] M := by
  unfold p_X4_readInto_14 at hp
  refine j_iconst g (n := 0) (0) (by decide +kernel) rfl ?_
  refine j_istore_n g (i := 2) (by decide +kernel) (by decide) ?_
  dsimp only [stL, clL, hdL]
  obtain ⟨h0, hp⟩ := hp
  have hc_16_1 := h0
  obtain ⟨h0, hp⟩ := hp
  have hq_16_1 := h0
  obtain ⟨h0, hp⟩ := hp
  have hx_16_1 := h0
  refine sh_X4_readInto_16   g (σ0 := (M, 0)) (cntN (fun k => c_X4_readInto_16  (l_X4_readInto_16  (M, 0) k)) 241) hc_16_1 hq_16_1 ?_ 
  refine j_iload_n g (i := 2) (by decide +kernel) rfl ?_
  refine j_sipush g (n := 240) (240) (by decide +kernel) (by decide +kernel) ?_
  refine j_icmp_ge g (off := 28) (tgt := 48) (by decide +kernel) (by decide) (fun c20 => ?_) (fun c20 => ?_)
  · rw [if_pos (show (240 : Int32) ≤ ((l_X4_readInto_16  (M, 0) (cntN (fun k => c_X4_readInto_16  (l_X4_readInto_16  (M, 0) k)) 241)).2) from c20)] at hp
    refine j_aload_n g (i := 0) (by decide +kernel) rfl ?_
    refine j_gI g f4_28 (by decide +kernel) (by decide +kernel) (by decide +kernel) ?_
    refine hr.1 _ _ _ _ (by decide +kernel) ⟨_, rfl, by first | rfl | exact b2i_nar | decide +kernel⟩ ?_ ?_
    · rw [hrv]; unfold r_X4_readInto_14; first | (simp only [if_pos (show (240 : Int32) ≤ ((l_X4_readInto_16  (M, 0) (cntN (fun k => c_X4_readInto_16  (l_X4_readInto_16  (M, 0) k)) 241)).2) from c20)]; done) | (simp only [if_pos (show (240 : Int32) ≤ ((l_X4_readInto_16  (M, 0) (cntN (fun k => c_X4_readInto_16  (l_X4_readInto_16  (M, 0) k)) 241)).2) from c20)]; rfl) | rfl
    · rw [hmm]; unfold w_X4_readInto_14; first | (simp only [if_pos (show (240 : Int32) ≤ ((l_X4_readInto_16  (M, 0) (cntN (fun k => c_X4_readInto_16  (l_X4_readInto_16  (M, 0) k)) 241)).2) from c20)]; done) | (simp only [if_pos (show (240 : Int32) ≤ ((l_X4_readInto_16  (M, 0) (cntN (fun k => c_X4_readInto_16  (l_X4_readInto_16  (M, 0) k)) 241)).2) from c20)]; rfl) | rfl
  · rw [if_neg (show ¬ ((240 : Int32) ≤ ((l_X4_readInto_16  (M, 0) (cntN (fun k => c_X4_readInto_16  (l_X4_readInto_16  (M, 0) k)) 241)).2)) from c20)] at hp
    refine j_aload_n g (i := 0) (by decide +kernel) rfl ?_
    refine j_gI g f4_19 (by decide +kernel) (by decide +kernel) (by decide +kernel) ?_
    refine j_if_eq g (off := 21) (tgt := 48) (by decide +kernel) (by decide) (fun c27 => ?_) (fun c27 => ?_)
    · rw [if_pos (show ((l_X4_readInto_16  (M, 0) (cntN (fun k => c_X4_readInto_16  (l_X4_readInto_16  (M, 0) k)) 241)).1.1 500 2) = 0 from c27)] at hp
      refine j_aload_n g (i := 0) (by decide +kernel) rfl ?_
      refine j_gI g f4_28 (by decide +kernel) (by decide +kernel) (by decide +kernel) ?_
      refine hr.1 _ _ _ _ (by decide +kernel) ⟨_, rfl, by first | rfl | exact b2i_nar | decide +kernel⟩ ?_ ?_
      · rw [hrv]; unfold r_X4_readInto_14; first | (simp only [if_neg (show ¬ ((240 : Int32) ≤ ((l_X4_readInto_16  (M, 0) (cntN (fun k => c_X4_readInto_16  (l_X4_readInto_16  (M, 0) k)) 241)).2)) from c20), if_pos (show ((l_X4_readInto_16  (M, 0) (cntN (fun k => c_X4_readInto_16  (l_X4_readInto_16  (M, 0) k)) 241)).1.1 500 2) = 0 from c27)]; done) | (simp only [if_neg (show ¬ ((240 : Int32) ≤ ((l_X4_readInto_16  (M, 0) (cntN (fun k => c_X4_readInto_16  (l_X4_readInto_16  (M, 0) k)) 241)).2)) from c20), if_pos (show ((l_X4_readInto_16  (M, 0) (cntN (fun k => c_X4_readInto_16  (l_X4_readInto_16  (M, 0) k)) 241)).1.1 500 2) = 0 from c27)]; rfl) | rfl
      · rw [hmm]; unfold w_X4_readInto_14; first | (simp only [if_neg (show ¬ ((240 : Int32) ≤ ((l_X4_readInto_16  (M, 0) (cntN (fun k => c_X4_readInto_16  (l_X4_readInto_16  (M, 0) k)) 241)).2)) from c20), if_pos (show ((l_X4_readInto_16  (M, 0) (cntN (fun k => c_X4_readInto_16  (l_X4_readInto_16  (M, 0) k)) 241)).1.1 500 2) = 0 from c27)]; done) | (simp only [if_neg (show ¬ ((240 : Int32) ≤ ((l_X4_readInto_16  (M, 0) (cntN (fun k => c_X4_readInto_16  (l_X4_readInto_16  (M, 0) k)) 241)).2)) from c20), if_pos (show ((l_X4_readInto_16  (M, 0) (cntN (fun k => c_X4_readInto_16  (l_X4_readInto_16  (M, 0) k)) 241)).1.1 500 2) = 0 from c27)]; rfl) | rfl
    · rw [if_neg (show ¬ (((l_X4_readInto_16  (M, 0) (cntN (fun k => c_X4_readInto_16  (l_X4_readInto_16  (M, 0) k)) 241)).1.1 500 2) = 0) from c27)] at hp
      refine j_aload_n g (i := 0) (by decide +kernel) rfl ?_
      refine j_gI g f4_28 (by decide +kernel) (by decide +kernel) (by decide +kernel) ?_
      refine j_if_ge g (off := 14) (tgt := 48) (by decide +kernel) (by decide) (fun c34 => ?_) (fun c34 => ?_)
      · rw [if_pos (show 0 ≤ ((l_X4_readInto_16  (M, 0) (cntN (fun k => c_X4_readInto_16  (l_X4_readInto_16  (M, 0) k)) 241)).1.1 500 5) from c34)] at hp
        refine j_aload_n g (i := 0) (by decide +kernel) rfl ?_
        refine j_gI g f4_28 (by decide +kernel) (by decide +kernel) (by decide +kernel) ?_
        refine hr.1 _ _ _ _ (by decide +kernel) ⟨_, rfl, by first | rfl | exact b2i_nar | decide +kernel⟩ ?_ ?_
        · rw [hrv]; unfold r_X4_readInto_14; first | (simp only [if_neg (show ¬ ((240 : Int32) ≤ ((l_X4_readInto_16  (M, 0) (cntN (fun k => c_X4_readInto_16  (l_X4_readInto_16  (M, 0) k)) 241)).2)) from c20), if_neg (show ¬ (((l_X4_readInto_16  (M, 0) (cntN (fun k => c_X4_readInto_16  (l_X4_readInto_16  (M, 0) k)) 241)).1.1 500 2) = 0) from c27), if_pos (show 0 ≤ ((l_X4_readInto_16  (M, 0) (cntN (fun k => c_X4_readInto_16  (l_X4_readInto_16  (M, 0) k)) 241)).1.1 500 5) from c34)]; done) | (simp only [if_neg (show ¬ ((240 : Int32) ≤ ((l_X4_readInto_16  (M, 0) (cntN (fun k => c_X4_readInto_16  (l_X4_readInto_16  (M, 0) k)) 241)).2)) from c20), if_neg (show ¬ (((l_X4_readInto_16  (M, 0) (cntN (fun k => c_X4_readInto_16  (l_X4_readInto_16  (M, 0) k)) 241)).1.1 500 2) = 0) from c27), if_pos (show 0 ≤ ((l_X4_readInto_16  (M, 0) (cntN (fun k => c_X4_readInto_16  (l_X4_readInto_16  (M, 0) k)) 241)).1.1 500 5) from c34)]; rfl) | rfl
        · rw [hmm]; unfold w_X4_readInto_14; first | (simp only [if_neg (show ¬ ((240 : Int32) ≤ ((l_X4_readInto_16  (M, 0) (cntN (fun k => c_X4_readInto_16  (l_X4_readInto_16  (M, 0) k)) 241)).2)) from c20), if_neg (show ¬ (((l_X4_readInto_16  (M, 0) (cntN (fun k => c_X4_readInto_16  (l_X4_readInto_16  (M, 0) k)) 241)).1.1 500 2) = 0) from c27), if_pos (show 0 ≤ ((l_X4_readInto_16  (M, 0) (cntN (fun k => c_X4_readInto_16  (l_X4_readInto_16  (M, 0) k)) 241)).1.1 500 5) from c34)]; done) | (simp only [if_neg (show ¬ ((240 : Int32) ≤ ((l_X4_readInto_16  (M, 0) (cntN (fun k => c_X4_readInto_16  (l_X4_readInto_16  (M, 0) k)) 241)).2)) from c20), if_neg (show ¬ (((l_X4_readInto_16  (M, 0) (cntN (fun k => c_X4_readInto_16  (l_X4_readInto_16  (M, 0) k)) 241)).1.1 500 2) = 0) from c27), if_pos (show 0 ≤ ((l_X4_readInto_16  (M, 0) (cntN (fun k => c_X4_readInto_16  (l_X4_readInto_16  (M, 0) k)) 241)).1.1 500 5) from c34)]; rfl) | rfl
      · rw [if_neg (show ¬ (0 ≤ ((l_X4_readInto_16  (M, 0) (cntN (fun k => c_X4_readInto_16  (l_X4_readInto_16  (M, 0) k)) 241)).1.1 500 5)) from c34)] at hp
        refine absurd (ci_X4_readInto_16.mpr ?_) hx_16_1
        simp only [if_neg (show ¬ ((240 : Int32) ≤ ((l_X4_readInto_16  (M, 0) (cntN (fun k => c_X4_readInto_16  (l_X4_readInto_16  (M, 0) k)) 241)).2)) from c20), if_neg (show ¬ (((l_X4_readInto_16  (M, 0) (cntN (fun k => c_X4_readInto_16  (l_X4_readInto_16  (M, 0) k)) 241)).1.1 500 2) = 0) from c27), if_neg (show ¬ (0 ≤ ((l_X4_readInto_16  (M, 0) (cntN (fun k => c_X4_readInto_16  (l_X4_readInto_16  (M, 0) k)) 241)).1.1 500 5)) from c34)]
noncomputable def r_X4_readInto (M : Mm)  : Int32 := r_X4_readInto_14 (w_X4_advance (wi (wi M 500 5 (-1)) 500 4 0))
noncomputable def w_X4_readInto (M : Mm)  : Mm := w_X4_readInto_14 (w_X4_advance (wi (wi M 500 5 (-1)) 500 4 0))
def p_X4_readInto (M : Mm)  : Prop := (p_X4_advance (wi (wi M 500 5 (-1)) 500 4 0) ) ∧ p_X4_readInto_14 (w_X4_advance (wi (wi M 500 5 (-1)) 500 4 0))
set_option maxRecDepth 20000 in
theorem rnX4_readInto {d : Nat} {M : Mm}   (hp : p_X4_readInto M ) : Rn (d + 8) mX4_readInto [.ref 500, .ref 300] M (some (.int (r_X4_readInto M ))) (w_X4_readInto M ) := by
  refine Rn.of [some (.ref 500), some (.ref 300), none] (by decide +kernel) rfl (Nat.le_of_ble_eq_true rfl) rfl (fun J g hr => ?_)
  unfold p_X4_readInto at hp
  refine j_aload_n g (i := 0) (by decide +kernel) rfl ?_
  refine j_iconst g (n := -1) (-1) (by decide +kernel) rfl ?_
  refine j_pI g f4_28 (fun q h => by cases h; rfl) (by decide +kernel) (by decide +kernel) (by decide +kernel) ?_
  refine j_aload_n g (i := 0) (by decide +kernel) rfl ?_
  refine j_iconst g (n := 0) (0) (by decide +kernel) rfl ?_
  refine j_pI g f4_25 (fun q h => by cases h; rfl) (by decide +kernel) (by decide +kernel) (by decide +kernel) ?_
  refine j_aload_n g (i := 0) (by decide +kernel) rfl ?_
  obtain ⟨h0, hp⟩ := hp
  refine j_cV0v g v4_31 ⟨rfl, by decide⟩ (by decide +kernel) (by decide +kernel) (Nat.le_of_ble_eq_true rfl) (rnX4_advance h0) ?_
  refine jn_X4_readInto_14  g hr hp ?_ ?_ 
  · unfold r_X4_readInto; rfl
  · unfold w_X4_readInto; rfl
noncomputable def r_X7_town_58 (M : Mm)  (x1 : Int32) : Int32 := (wi M 1 8 0).1 100 2
noncomputable def w_X7_town_58 (M : Mm)  (x1 : Int32) : Mm := (wi M 1 8 0)
theorem jn_X7_town_58 {d : Nat} {J : Nat → Lc → List Value → Mm → Prop} {M : Mm}  {x1 : Int32}  (g : Good mX7_town.1 mX7_town.2.2.1 mX7_town.2.2.2.1 (d + 9) J) {rv : Option Value} {M1 : Mm} (hr : Ret mX7_town.2.2.1 mX7_town.2.2.2.2 rv M1 J) (hrv : rv = some (.int (r_X7_town_58 M  x1))) (hmm : M1 = w_X7_town_58 M  x1) : J 58 [some (.ref 1), some (.int x1)] [] M := by
  refine j_aload_n g (i := 0) (by decide +kernel) rfl ?_
  refine j_iconst g (n := 0) (0) (by decide +kernel) rfl ?_
  refine j_pI g f7_55 (fun q h => by cases h; rfl) (by decide +kernel) (by decide +kernel) (by decide +kernel) ?_
  refine j_aload_n g (i := 0) (by decide +kernel) rfl ?_
  refine j_gA g (b := 100) f7_20 (by decide +kernel) (by decide +kernel) (by decide +kernel) (by decide +kernel) ?_
  refine j_gI g f7_84 (by decide +kernel) (by decide +kernel) (by decide +kernel) ?_
  refine hr.1 _ _ _ _ (by decide +kernel) ⟨_, rfl, by first | rfl | exact b2i_nar | decide +kernel⟩ ?_ ?_
  · rw [hrv]; unfold r_X7_town_58; rfl
  · rw [hmm]; unfold w_X7_town_58; rfl
noncomputable def r_X7_town_47 (M : Mm)  (x1 : Int32) : Int32 := r_X7_town_58 (w_X5_takeTown_100_300 M)  x1
noncomputable def w_X7_town_47 (M : Mm)  (x1 : Int32) : Mm := w_X7_town_58 (w_X5_takeTown_100_300 M)  x1
def p_X7_town_47 (M : Mm)  (x1 : Int32) : Prop := (p_X5_takeTown_100_300 M ) ∧ True
theorem jn_X7_town_47 {d : Nat} {J : Nat → Lc → List Value → Mm → Prop} {M : Mm}  {x1 : Int32}  (g : Good mX7_town.1 mX7_town.2.2.1 mX7_town.2.2.2.1 (d + 9) J) {rv : Option Value} {M1 : Mm} (hr : Ret mX7_town.2.2.1 mX7_town.2.2.2.2 rv M1 J) (hp : p_X7_town_47 M  x1) (hrv : rv = some (.int (r_X7_town_47 M  x1))) (hmm : M1 = w_X7_town_47 M  x1) : J 47 [some (.ref 1), some (.int x1)] [] M := by
  unfold p_X7_town_47 at hp
  refine j_aload_n g (i := 0) (by decide +kernel) rfl ?_
  refine j_gA g (b := 100) f7_20 (by decide +kernel) (by decide +kernel) (by decide +kernel) (by decide +kernel) ?_
  refine j_aload_n g (i := 0) (by decide +kernel) rfl ?_
  refine j_gA g (b := 300) f7_27 (by decide +kernel) (by decide +kernel) (by decide +kernel) (by decide +kernel) ?_
  obtain ⟨h0, hp⟩ := hp
  refine j_cV1v g v7_81 ⟨rfl, by decide⟩ (by decide +kernel) (by decide +kernel) (Nat.le_of_ble_eq_true rfl) (rnX5_takeTown_100_300 h0) ?_
  refine jn_X7_town_58  g hr  ?_ ?_ 
  · rw [hrv]; unfold r_X7_town_47; rfl
  · rw [hmm]; unfold w_X7_town_47; rfl
noncomputable def r_X7_town_30 (M : Mm)  (x1 : Int32) : Int32 := if x1 < 0 then r_X7_town_47 (wi M 500 1 0)  x1 else (-100 : Int32) - x1
noncomputable def w_X7_town_30 (M : Mm)  (x1 : Int32) : Mm := if x1 < 0 then w_X7_town_47 (wi M 500 1 0)  x1 else (wi M 500 1 0)
def p_X7_town_30 (M : Mm)  (x1 : Int32) : Prop := (if x1 < 0 then p_X7_town_47 (wi M 500 1 0)  x1 else True)
theorem jn_X7_town_30 {d : Nat} {J : Nat → Lc → List Value → Mm → Prop} {M : Mm}  {x1 : Int32}  (g : Good mX7_town.1 mX7_town.2.2.1 mX7_town.2.2.2.1 (d + 9) J) {rv : Option Value} {M1 : Mm} (hr : Ret mX7_town.2.2.1 mX7_town.2.2.2.2 rv M1 J) (hp : p_X7_town_30 M  x1) (hrv : rv = some (.int (r_X7_town_30 M  x1))) (hmm : M1 = w_X7_town_30 M  x1) : J 30 [some (.ref 1), some (.int x1)] [] M := by
  unfold p_X7_town_30 at hp
  refine j_aload_n g (i := 0) (by decide +kernel) rfl ?_
  refine j_gA g (b := 500) f7_33 (by decide +kernel) (by decide +kernel) (by decide +kernel) (by decide +kernel) ?_
  refine j_iconst g (n := 0) (0) (by decide +kernel) rfl ?_
  refine j_pI g f7_67 (fun q h => by cases h; rfl) (by decide +kernel) (by decide +kernel) (by decide +kernel) ?_
  refine j_iload_n g (i := 1) (by decide +kernel) rfl ?_
  refine j_if_lt g (off := 8) (tgt := 47) (by decide +kernel) (by decide) (fun c39 => ?_) (fun c39 => ?_)
  · rw [if_pos (show x1 < 0 from c39)] at hp
    refine jn_X7_town_47  g hr hp ?_ ?_ 
    · rw [hrv]; unfold r_X7_town_30; first | (simp only [if_pos (show x1 < 0 from c39)]; done) | (simp only [if_pos (show x1 < 0 from c39)]; rfl) | rfl
    · rw [hmm]; unfold w_X7_town_30; first | (simp only [if_pos (show x1 < 0 from c39)]; done) | (simp only [if_pos (show x1 < 0 from c39)]; rfl) | rfl
  · rw [if_neg (show ¬ (x1 < 0) from c39)] at hp
    refine j_bipush g (n := -100) (-100) (by decide +kernel) (by decide +kernel) ?_
    refine j_iload_n g (i := 1) (by decide +kernel) rfl ?_
    refine j_isub g (by decide +kernel) ?_
    refine hr.1 _ _ _ _ (by decide +kernel) ⟨_, rfl, by first | rfl | exact b2i_nar | decide +kernel⟩ ?_ ?_
    · rw [hrv]; unfold r_X7_town_30; first | (simp only [if_neg (show ¬ (x1 < 0) from c39)]; done) | (simp only [if_neg (show ¬ (x1 < 0) from c39)]; rfl) | rfl
    · rw [hmm]; unfold w_X7_town_30; first | (simp only [if_neg (show ¬ (x1 < 0) from c39)]; done) | (simp only [if_neg (show ¬ (x1 < 0) from c39)]; rfl) | rfl
noncomputable def r_X7_town_18 (M : Mm)   : Int32 := r_X7_town_30 (w_X4_readInto M)  (r_X4_readInto M)
noncomputable def w_X7_town_18 (M : Mm)   : Mm := w_X7_town_30 (w_X4_readInto M)  (r_X4_readInto M)
def p_X7_town_18 (M : Mm)   : Prop := (p_X4_readInto M ) ∧ p_X7_town_30 (w_X4_readInto M)  (r_X4_readInto M)
theorem jn_X7_town_18 {d : Nat} {J : Nat → Lc → List Value → Mm → Prop} {M : Mm}    (g : Good mX7_town.1 mX7_town.2.2.1 mX7_town.2.2.2.1 (d + 9) J) {rv : Option Value} {M1 : Mm} (hr : Ret mX7_town.2.2.1 mX7_town.2.2.2.2 rv M1 J) (hp : p_X7_town_18 M  ) (hrv : rv = some (.int (r_X7_town_18 M  ))) (hmm : M1 = w_X7_town_18 M  ) : J 18 [some (.ref 1), none] [] M := by
  unfold p_X7_town_18 at hp
  refine j_aload_n g (i := 0) (by decide +kernel) rfl ?_
  refine j_gA g (b := 500) f7_33 (by decide +kernel) (by decide +kernel) (by decide +kernel) (by decide +kernel) ?_
  refine j_aload_n g (i := 0) (by decide +kernel) rfl ?_
  refine j_gA g (b := 300) f7_27 (by decide +kernel) (by decide +kernel) (by decide +kernel) (by decide +kernel) ?_
  obtain ⟨h0, hp⟩ := hp
  refine j_cV1r g v7_77 ⟨rfl, by decide⟩ (by decide +kernel) (by decide +kernel) (Nat.le_of_ble_eq_true rfl) (rnX4_readInto h0) ?_
  refine j_istore_n g (i := 1) (by decide +kernel) (by decide) ?_
  dsimp only [stL, clL, hdL]
  refine jn_X7_town_30  g hr hp ?_ ?_ 
  · rw [hrv]; unfold r_X7_town_18; rfl
  · rw [hmm]; unfold w_X7_town_18; rfl
noncomputable def r_X7_town_7 (M : Mm)   : Int32 := r_X7_town_18 (w_X5_takeLaws_300_100 M)
noncomputable def w_X7_town_7 (M : Mm)   : Mm := w_X7_town_18 (w_X5_takeLaws_300_100 M)
def p_X7_town_7 (M : Mm)   : Prop := p_X7_town_18 (w_X5_takeLaws_300_100 M)
theorem jn_X7_town_7 {d : Nat} {J : Nat → Lc → List Value → Mm → Prop} {M : Mm}    (g : Good mX7_town.1 mX7_town.2.2.1 mX7_town.2.2.2.1 (d + 9) J) {rv : Option Value} {M1 : Mm} (hr : Ret mX7_town.2.2.1 mX7_town.2.2.2.2 rv M1 J) (hp : p_X7_town_7 M  ) (hrv : rv = some (.int (r_X7_town_7 M  ))) (hmm : M1 = w_X7_town_7 M  ) : J 7 [some (.ref 1), none] [] M := by
  unfold p_X7_town_7 at hp
  refine j_aload_n g (i := 0) (by decide +kernel) rfl ?_
  refine j_gA g (b := 300) f7_27 (by decide +kernel) (by decide +kernel) (by decide +kernel) (by decide +kernel) ?_
  refine j_aload_n g (i := 0) (by decide +kernel) rfl ?_
  refine j_gA g (b := 100) f7_20 (by decide +kernel) (by decide +kernel) (by decide +kernel) (by decide +kernel) ?_
  refine j_cV1v g v7_73 ⟨rfl, by decide⟩ (by decide +kernel) (by decide +kernel) (Nat.le_of_ble_eq_true rfl) (rnX5_takeLaws_300_100) ?_
  refine jn_X7_town_18  g hr hp ?_ ?_ 
  · rw [hrv]; unfold r_X7_town_7; rfl
  · rw [hmm]; unfold w_X7_town_7; rfl
noncomputable def r_X7_town (M : Mm)  : Int32 := r_X7_town_7 (w_X5_clear_300 M)
noncomputable def w_X7_town (M : Mm)  : Mm := w_X7_town_7 (w_X5_clear_300 M)
def p_X7_town (M : Mm)  : Prop := p_X7_town_7 (w_X5_clear_300 M)
set_option maxRecDepth 20000 in
theorem rnX7_town {d : Nat} {M : Mm}   (hp : p_X7_town M ) : Rn (d + 9) mX7_town [.ref 1] M (some (.int (r_X7_town M ))) (w_X7_town M ) := by
  refine Rn.of [some (.ref 1), none] (by decide +kernel) rfl (Nat.le_of_ble_eq_true rfl) rfl (fun J g hr => ?_)
  unfold p_X7_town at hp
  refine j_aload_n g (i := 0) (by decide +kernel) rfl ?_
  refine j_gA g (b := 300) f7_27 (by decide +kernel) (by decide +kernel) (by decide +kernel) (by decide +kernel) ?_
  refine j_cV0v g v7_70 ⟨rfl, by decide⟩ (by decide +kernel) (by decide +kernel) (Nat.le_of_ble_eq_true rfl) (rnX5_clear_300) ?_
  refine jn_X7_town_7  g hr hp ?_ ?_ 
  · unfold r_X7_town; rfl
  · unfold w_X7_town; rfl
