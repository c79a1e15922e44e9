section JE
variable {own : Nat} {bytes : ByteArray} {mL d : Nat} {J : Nat → Lc → List Value → Mm → Prop} {pc : Nat} {L : Lc} {st : List Value} {M : Mm}
theorem j_iac (g : Good own bytes mL d J) {a : Nat} {i : Int32} (n k : Nat) (hd : decode bytes pc = .ok (.iaload, 1)) (ha : gk a = 10) (hg : gl a = n) (hi : vp_in i n) (hk : i.toNatClampNeg = k) (kk : J (pc + 1) L (.int (M.1 a k) :: st) M) : J pc L (.int i :: .ref a :: st) M := j_ia g n hd ha hg hi (by rw [hk]; exact kk)
theorem j_bac (g : Good own bytes mL d J) {a : Nat} {i : Int32} (n k : Nat) (hd : decode bytes pc = .ok (.baload, 1)) (ha : gk a = 9) (hg : gl a = n) (hi : vp_in i n) (hk : i.toNatClampNeg = k) (kk : J (pc + 1) L (.int (M.1 a k) :: st) M) : J pc L (.int i :: .ref a :: st) M := j_ba g n hd ha hg hi (by rw [hk]; exact kk)
theorem j_lac (g : Good own bytes mL d J) {a : Nat} {i : Int32} (n k : Nat) (hd : decode bytes pc = .ok (.laload, 1)) (ha : gk a = 11) (hg : gl a = n) (hi : vp_in i n) (hk : i.toNatClampNeg = k) (kk : J (pc + 1) L (.long (M.2 a k) :: st) M) : J pc L (.int i :: .ref a :: st) M := j_la g n hd ha hg hi (by rw [hk]; exact kk)
theorem j_isc (g : Good own bytes mL d J) {a : Nat} {i : Int32} {x : Int32} (n k : Nat) (hd : decode bytes pc = .ok (.iastore, 1)) (ha : gk a = 10) (hg : gl a = n) (hi : vp_in i n) (hk : i.toNatClampNeg = k) (kk : J (pc + 1) L st (wi M a k x)) : J pc L (.int x :: .int i :: .ref a :: st) M := j_is g n hd ha hg hi (by rw [hk]; exact kk)
theorem j_lsc (g : Good own bytes mL d J) {a : Nat} {i : Int32} {x : Int64} (n k : Nat) (hd : decode bytes pc = .ok (.lastore, 1)) (ha : gk a = 11) (hg : gl a = n) (hi : vp_in i n) (hk : i.toNatClampNeg = k) (kk : J (pc + 1) L st (wl M a k x)) : J pc L (.long x :: .int i :: .ref a :: st) M := j_ls g n hd ha hg hi (by rw [hk]; exact kk)
theorem j_stL7 (g : Good 7 bytes mL d J) (hd : decode bytes pc = .ok (.getstatic 166, 3)) (k : J (pc + 3) L (.ref 700 :: st) M) : J pc L st M := by
  obtain ⟨p, l, e, R, s, m, args, below, meth, c, cells, slots, Z, D, r, cA, A, ⟨hx, hb, hml, hown, hts, hK, hE, hD, hRf, hRl, hRc, hRs⟩, rfl⟩ := g
  intro H locs ls hP hS hl
  exact va_gets hx hb hE.1.1 hS hown (hts (.fieldLink RX7 166 "OneMoves" "LAW_LEAST" "[I") (big_mem 655 (by decide +kernel) (by decide +kernel))) (fun _ h => h) hd (k H locs ls hP hS hl)
theorem j_stM7 (g : Good 7 bytes mL d J) (hd : decode bytes pc = .ok (.getstatic 169, 3)) (k : J (pc + 3) L (.ref 701 :: st) M) : J pc L st M := by
  obtain ⟨p, l, e, R, s, m, args, below, meth, c, cells, slots, Z, D, r, cA, A, ⟨hx, hb, hml, hown, hts, hK, hE, hD, hRf, hRl, hRc, hRs⟩, rfl⟩ := g
  intro H locs ls hP hS hl
  exact va_gets hx hb hE.2.1.1 hS hown (hts (.fieldLink RX7 169 "OneMoves" "LAW_MOST" "[I") (big_mem 656 (by decide +kernel) (by decide +kernel))) (fun _ h => h) hd (k H locs ls hP hS hl)
theorem j_stL4 (g : Good 4 bytes mL d J) (hd : decode bytes pc = .ok (.getstatic 102, 3)) (k : J (pc + 3) L (.ref 700 :: st) M) : J pc L st M := by
  obtain ⟨p, l, e, R, s, m, args, below, meth, c, cells, slots, Z, D, r, cA, A, ⟨hx, hb, hml, hown, hts, hK, hE, hD, hRf, hRl, hRc, hRs⟩, rfl⟩ := g
  intro H locs ls hP hS hl
  exact va_getsN hx hb hE.1.1 hS hown (va_Nw.use rfl hE.2.2.1.1) (fun _ h => h) hd (k H locs ls hP hS hl)
theorem j_stM4 (g : Good 4 bytes mL d J) (hd : decode bytes pc = .ok (.getstatic 106, 3)) (k : J (pc + 3) L (.ref 701 :: st) M) : J pc L st M := by
  obtain ⟨p, l, e, R, s, m, args, below, meth, c, cells, slots, Z, D, r, cA, A, ⟨hx, hb, hml, hown, hts, hK, hE, hD, hRf, hRl, hRc, hRs⟩, rfl⟩ := g
  intro H locs ls hP hS hl
  exact va_getsN hx hb hE.2.1.1 hS hown (va_Nw.use rfl hE.2.2.1.2) (fun _ h => h) hd (k H locs ls hP hS hl)
theorem j_tiL (g : Good own bytes mL d J) {i : Int32} (hd : decode bytes pc = .ok (.iaload, 1)) (hi : vp_in i 4) (k : J (pc + 1) L (.int (om_least i.toNatClampNeg) :: st) M) : J pc L (.int i :: .ref 700 :: st) M := by
  obtain ⟨p, l, e, R, s, m, args, below, meth, c, cells, slots, Z, D, r, cA, A, ⟨hx, hb, hml, hown, hts, hK, hE, hD, hRf, hRl, hRc, hRs⟩, rfl⟩ := g
  intro H locs ls hP hS hl
  exact va_ti hx hb hE.1.2 hS hi rfl hd (k H locs ls hP hS hl)
theorem j_tiM (g : Good own bytes mL d J) {i : Int32} (hd : decode bytes pc = .ok (.iaload, 1)) (hi : vp_in i 4) (k : J (pc + 1) L (.int (om_most i.toNatClampNeg) :: st) M) : J pc L (.int i :: .ref 701 :: st) M := by
  obtain ⟨p, l, e, R, s, m, args, below, meth, c, cells, slots, Z, D, r, cA, A, ⟨hx, hb, hml, hown, hts, hK, hE, hD, hRf, hRl, hRc, hRs⟩, rfl⟩ := g
  intro H locs ls hP hS hl
  exact va_ti hx hb hE.2.1.2 hS hi rfl hd (k H locs ls hP hS hl)
end JE
theorem rnX3_placesOf0 {d : Nat} {M : Mm} {s : Nat} {a : Int32} (hs : isS s) (h : a = 0) : Rn d mX3_placesOf [.ref s, .int a] M (some (.ref (s + 1))) M := by
  obtain ⟨⟨g0, g1, g2, g3, g4⟩, ⟨l1, l2, l3, l4⟩, r0, r1, r2, r3⟩ := isS_F hs
  refine Rn.of [some (.ref s), some (.int a)] (by decide +kernel) rfl (Nat.le_of_ble_eq_true rfl) rfl (fun J g hr => ?_)
  refine j_iload_n g (i := 1) (by decide +kernel) rfl ?_
  refine j_if_ne g (off := 10) (tgt := 11) (by decide +kernel) (by decide) (fun c1 => ?_) (fun c1 => ?_)
  · exact absurd h c1
  · skip
    refine j_aload_n g (i := 0) (by decide +kernel) rfl ?_
    refine j_gA g f3_9 (by decide +kernel) (by decide +kernel) (by first | assumption | omega | simp only [*]) (by assumption) ?_
    refine j_goto g (off := 7) (tgt := 15) (by decide +kernel) (by decide) ?_
    refine hr.2.2.1 _ _ _ _ (by decide +kernel) ⟨_, rfl, Or.inr ⟨_, rfl⟩⟩ ?_ ?_
    · rfl
    · rfl
theorem rnX3_placesOf1 {d : Nat} {M : Mm} {s : Nat} {a : Int32} (hs : isS s) (h : ¬ a = 0) : Rn d mX3_placesOf [.ref s, .int a] M (some (.ref (s + 2))) M := by
  obtain ⟨⟨g0, g1, g2, g3, g4⟩, ⟨l1, l2, l3, l4⟩, r0, r1, r2, r3⟩ := isS_F hs
  refine Rn.of [some (.ref s), some (.int a)] (by decide +kernel) rfl (Nat.le_of_ble_eq_true rfl) rfl (fun J g hr => ?_)
  refine j_iload_n g (i := 1) (by decide +kernel) rfl ?_
  refine j_if_ne g (off := 10) (tgt := 11) (by decide +kernel) (by decide) (fun c1 => ?_) (fun c1 => ?_)
  · skip
    refine j_aload_n g (i := 0) (by decide +kernel) rfl ?_
    refine j_gA g f3_15 (by decide +kernel) (by decide +kernel) (by first | assumption | omega | simp only [*]) (by assumption) ?_
    refine hr.2.2.1 _ _ _ _ (by decide +kernel) ⟨_, rfl, Or.inr ⟨_, rfl⟩⟩ ?_ ?_
    · rfl
    · rfl
  · exact absurd h c1
theorem rfW203 {i : Int32} (h : vp_in i 6) : rf 203 i.toNatClampNeg = 210 + i.toNatClampNeg := by
  have key : ∀ k, k < 6 → rf 203 k = 210 + k := by decide +kernel
  exact key _ (vin_iff.mp h).2
theorem gkW203 {i : Int32} (h : vp_in i 6) : gk (210 + i.toNatClampNeg) = 6 := by
  have key : ∀ k, k < 6 → gk (210 + k) = 6 := by decide +kernel
  exact key _ (vin_iff.mp h).2
theorem ex6 : ∃ n : Nat, n = 6 := ⟨6, rfl⟩
noncomputable def n6 : Nat := Classical.choose ex6
theorem n6_eq : n6 = 6 := Classical.choose_spec ex6
theorem ex4 : ∃ n : Nat, n = 4 := ⟨4, rfl⟩
noncomputable def n4 : Nat := Classical.choose ex4
theorem n4_eq : n4 = 4 := Classical.choose_spec ex4
theorem ex48 : ∃ n : Nat, n = 48 := ⟨48, rfl⟩
noncomputable def n48 : Nat := Classical.choose ex48
theorem n48_eq : n48 = 48 := Classical.choose_spec ex48
