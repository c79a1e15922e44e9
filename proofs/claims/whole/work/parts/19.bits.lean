theorem j_ldcw {own : Nat} {bytes : ByteArray} {mL d : Nat} {J : Nat → Lc → List Value → Mm → Prop} (g : Good own bytes mL d J) {pc : Nat} {L : Lc} {st : List Value} {M : Mm} {n : Nat} (v : Int32) (hd : decode bytes pc = .ok (.ldc_w n, 3)) (hv : Cond.constant (om_own own) n v ∈ BIG) (k : J (pc + 3) L (.int v :: st) M) : J pc L st M := by
  obtain ⟨p, l, e, R, s, m, args, below, meth, c, cells, slots, Z, D, r, cA, A, ⟨hx, hb, hml, hown, hts, hK, hE, hD, hRf, hRl, hRc, hRs⟩, rfl⟩ := g
  intro H locs ls hP hS hl
  exact lv_ldcw hx hb hown (hts _ hv) hd (k H locs ls hP hS hl)
theorem i13_265 : Cond.constant (om_own 13) 265 1431655765 ∈ BIG := big_mem 888 (by decide +kernel) (by decide +kernel)
theorem i13_266 : Cond.constant (om_own 13) 266 858993459 ∈ BIG := big_mem 889 (by decide +kernel) (by decide +kernel)
theorem i13_267 : Cond.constant (om_own 13) 267 252645135 ∈ BIG := big_mem 890 (by decide +kernel) (by decide +kernel)
noncomputable def r_J6_bitCount_0f7a4 (M : Mm) (a1 : Int32) : Int32 := (((((((a1 - ((UInt32.toInt32 (Int32.toUInt32 a1 >>> (Int32.toUInt32 (1 : Int32) &&& Int32.toUInt32 31))) &&& 1431655765)) &&& 858993459) + ((UInt32.toInt32 (Int32.toUInt32 (a1 - ((UInt32.toInt32 (Int32.toUInt32 a1 >>> (Int32.toUInt32 (1 : Int32) &&& Int32.toUInt32 31))) &&& 1431655765)) >>> (Int32.toUInt32 (2 : Int32) &&& Int32.toUInt32 31))) &&& 858993459)) + (UInt32.toInt32 (Int32.toUInt32 (((a1 - ((UInt32.toInt32 (Int32.toUInt32 a1 >>> (Int32.toUInt32 (1 : Int32) &&& Int32.toUInt32 31))) &&& 1431655765)) &&& 858993459) + ((UInt32.toInt32 (Int32.toUInt32 (a1 - ((UInt32.toInt32 (Int32.toUInt32 a1 >>> (Int32.toUInt32 (1 : Int32) &&& Int32.toUInt32 31))) &&& 1431655765)) >>> (Int32.toUInt32 (2 : Int32) &&& Int32.toUInt32 31))) &&& 858993459)) >>> (Int32.toUInt32 (4 : Int32) &&& Int32.toUInt32 31)))) &&& 252645135) + (UInt32.toInt32 (Int32.toUInt32 (((((a1 - ((UInt32.toInt32 (Int32.toUInt32 a1 >>> (Int32.toUInt32 (1 : Int32) &&& Int32.toUInt32 31))) &&& 1431655765)) &&& 858993459) + ((UInt32.toInt32 (Int32.toUInt32 (a1 - ((UInt32.toInt32 (Int32.toUInt32 a1 >>> (Int32.toUInt32 (1 : Int32) &&& Int32.toUInt32 31))) &&& 1431655765)) >>> (Int32.toUInt32 (2 : Int32) &&& Int32.toUInt32 31))) &&& 858993459)) + (UInt32.toInt32 (Int32.toUInt32 (((a1 - ((UInt32.toInt32 (Int32.toUInt32 a1 >>> (Int32.toUInt32 (1 : Int32) &&& Int32.toUInt32 31))) &&& 1431655765)) &&& 858993459) + ((UInt32.toInt32 (Int32.toUInt32 (a1 - ((UInt32.toInt32 (Int32.toUInt32 a1 >>> (Int32.toUInt32 (1 : Int32) &&& Int32.toUInt32 31))) &&& 1431655765)) >>> (Int32.toUInt32 (2 : Int32) &&& Int32.toUInt32 31))) &&& 858993459)) >>> (Int32.toUInt32 (4 : Int32) &&& Int32.toUInt32 31)))) &&& 252645135) >>> (Int32.toUInt32 (8 : Int32) &&& Int32.toUInt32 31)))) + (UInt32.toInt32 (Int32.toUInt32 ((((((a1 - ((UInt32.toInt32 (Int32.toUInt32 a1 >>> (Int32.toUInt32 (1 : Int32) &&& Int32.toUInt32 31))) &&& 1431655765)) &&& 858993459) + ((UInt32.toInt32 (Int32.toUInt32 (a1 - ((UInt32.toInt32 (Int32.toUInt32 a1 >>> (Int32.toUInt32 (1 : Int32) &&& Int32.toUInt32 31))) &&& 1431655765)) >>> (Int32.toUInt32 (2 : Int32) &&& Int32.toUInt32 31))) &&& 858993459)) + (UInt32.toInt32 (Int32.toUInt32 (((a1 - ((UInt32.toInt32 (Int32.toUInt32 a1 >>> (Int32.toUInt32 (1 : Int32) &&& Int32.toUInt32 31))) &&& 1431655765)) &&& 858993459) + ((UInt32.toInt32 (Int32.toUInt32 (a1 - ((UInt32.toInt32 (Int32.toUInt32 a1 >>> (Int32.toUInt32 (1 : Int32) &&& Int32.toUInt32 31))) &&& 1431655765)) >>> (Int32.toUInt32 (2 : Int32) &&& Int32.toUInt32 31))) &&& 858993459)) >>> (Int32.toUInt32 (4 : Int32) &&& Int32.toUInt32 31)))) &&& 252645135) + (UInt32.toInt32 (Int32.toUInt32 (((((a1 - ((UInt32.toInt32 (Int32.toUInt32 a1 >>> (Int32.toUInt32 (1 : Int32) &&& Int32.toUInt32 31))) &&& 1431655765)) &&& 858993459) + ((UInt32.toInt32 (Int32.toUInt32 (a1 - ((UInt32.toInt32 (Int32.toUInt32 a1 >>> (Int32.toUInt32 (1 : Int32) &&& Int32.toUInt32 31))) &&& 1431655765)) >>> (Int32.toUInt32 (2 : Int32) &&& Int32.toUInt32 31))) &&& 858993459)) + (UInt32.toInt32 (Int32.toUInt32 (((a1 - ((UInt32.toInt32 (Int32.toUInt32 a1 >>> (Int32.toUInt32 (1 : Int32) &&& Int32.toUInt32 31))) &&& 1431655765)) &&& 858993459) + ((UInt32.toInt32 (Int32.toUInt32 (a1 - ((UInt32.toInt32 (Int32.toUInt32 a1 >>> (Int32.toUInt32 (1 : Int32) &&& Int32.toUInt32 31))) &&& 1431655765)) >>> (Int32.toUInt32 (2 : Int32) &&& Int32.toUInt32 31))) &&& 858993459)) >>> (Int32.toUInt32 (4 : Int32) &&& Int32.toUInt32 31)))) &&& 252645135) >>> (Int32.toUInt32 (8 : Int32) &&& Int32.toUInt32 31)))) >>> (Int32.toUInt32 (16 : Int32) &&& Int32.toUInt32 31)))) &&& 63
set_option maxRecDepth 20000 in
theorem rnJ6_bitCount_0f7a4 {d : Nat} {M : Mm} {a1 : Int32}  : Rn (d + 0) mJ6_bitCount_0f7a4 [.int a1] M (some (.int (r_J6_bitCount_0f7a4 M a1))) M := by
  refine Rn.of [some (.int a1)] (by decide +kernel) rfl (Nat.le_of_ble_eq_true rfl) rfl (fun J g hr => ?_)
  refine j_iload_n g (i := 0) (by decide +kernel) rfl ?_
  refine j_iload_n g (i := 0) (by decide +kernel) rfl ?_
  refine j_iconst g (n := 1) (1) (by decide +kernel) rfl ?_
  refine j_iushr g (by decide +kernel) ?_
  refine j_ldcw g (n := 265) (1431655765) (by decide +kernel) i13_265 ?_
  refine j_iand g (by decide +kernel) ?_
  refine j_isub g (by decide +kernel) ?_
  refine j_istore_n g (i := 0) (by decide +kernel) (by decide) ?_
  dsimp only [stL, clL, hdL]
  refine j_iload_n g (i := 0) (by decide +kernel) rfl ?_
  refine j_ldcw g (n := 266) (858993459) (by decide +kernel) i13_266 ?_
  refine j_iand g (by decide +kernel) ?_
  refine j_iload_n g (i := 0) (by decide +kernel) rfl ?_
  refine j_iconst g (n := 2) (2) (by decide +kernel) rfl ?_
  refine j_iushr g (by decide +kernel) ?_
  refine j_ldcw g (n := 266) (858993459) (by decide +kernel) i13_266 ?_
  refine j_iand g (by decide +kernel) ?_
  refine j_iadd g (by decide +kernel) ?_
  refine j_istore_n g (i := 0) (by decide +kernel) (by decide) ?_
  dsimp only [stL, clL, hdL]
  refine j_iload_n g (i := 0) (by decide +kernel) rfl ?_
  refine j_iload_n g (i := 0) (by decide +kernel) rfl ?_
  refine j_iconst g (n := 4) (4) (by decide +kernel) rfl ?_
  refine j_iushr g (by decide +kernel) ?_
  refine j_iadd g (by decide +kernel) ?_
  refine j_ldcw g (n := 267) (252645135) (by decide +kernel) i13_267 ?_
  refine j_iand g (by decide +kernel) ?_
  refine j_istore_n g (i := 0) (by decide +kernel) (by decide) ?_
  dsimp only [stL, clL, hdL]
  refine j_iload_n g (i := 0) (by decide +kernel) rfl ?_
  refine j_iload_n g (i := 0) (by decide +kernel) rfl ?_
  refine j_bipush g (n := 8) (8) (by decide +kernel) (by decide +kernel) ?_
  refine j_iushr g (by decide +kernel) ?_
  refine j_iadd g (by decide +kernel) ?_
  refine j_istore_n g (i := 0) (by decide +kernel) (by decide) ?_
  dsimp only [stL, clL, hdL]
  refine j_iload_n g (i := 0) (by decide +kernel) rfl ?_
  refine j_iload_n g (i := 0) (by decide +kernel) rfl ?_
  refine j_bipush g (n := 16) (16) (by decide +kernel) (by decide +kernel) ?_
  refine j_iushr g (by decide +kernel) ?_
  refine j_iadd g (by decide +kernel) ?_
  refine j_istore_n g (i := 0) (by decide +kernel) (by decide) ?_
  dsimp only [stL, clL, hdL]
  refine j_iload_n g (i := 0) (by decide +kernel) rfl ?_
  refine j_bipush g (n := 63) (63) (by decide +kernel) (by decide +kernel) ?_
  refine j_iand g (by decide +kernel) ?_
  refine hr.1 _ _ _ _ (by decide +kernel) ⟨_, rfl, by first | rfl | exact b2i_nar | decide +kernel⟩ ?_ ?_
  · unfold r_J6_bitCount_0f7a4; rfl
  · rfl
def c_X2_atPlace_21 (M : Mm) (a1 : Int32) (a2 : Int32) (x3 : Int32) (σ : Int32 × Int32) : Prop := if (M.1 100 2) ≤ σ.2 then False else if (b2i (¬ (a1 >>> (σ.2 &&& 31)) &&& 1 = 0)) = 0 then True else if ¬ σ.1 = 0 then True else False
theorem ci_X2_atPlace_21 {M : Mm} {a1 : Int32} {a2 : Int32} {x3 : Int32} {σ : Int32 × Int32} : c_X2_atPlace_21 M a1 a2 x3 σ ↔ (if (M.1 100 2) ≤ σ.2 then False else if (b2i (¬ (a1 >>> (σ.2 &&& 31)) &&& 1 = 0)) = 0 then True else if ¬ σ.1 = 0 then True else False) := Iff.rfl
noncomputable def s_X2_atPlace_21 (M : Mm) (a1 : Int32) (a2 : Int32) (x3 : Int32) (σ : Int32 × Int32) : Int32 × Int32 := if (M.1 100 2) ≤ σ.2 then σ else if (b2i (¬ (a1 >>> (σ.2 &&& 31)) &&& 1 = 0)) = 0 then (σ.1, σ.2 + 1) else if ¬ σ.1 = 0 then (σ.1 + (-1), σ.2 + 1) else σ
noncomputable def l_X2_atPlace_21 (M : Mm) (a1 : Int32) (a2 : Int32) (x3 : Int32) (σ0 : Int32 × Int32) : Nat → Int32 × Int32 := itN (fun _ σ => s_X2_atPlace_21 M a1 a2 x3 σ) σ0
theorem ps_X2_atPlace_21 {d : Nat} {J : Nat → Lc → List Value → Mm → Prop} {M : Mm} {a1 : Int32} {a2 : Int32} {x3 : Int32} {σ : Int32 × Int32}  (g : Good mX2_atPlace.1 mX2_atPlace.2.2.1 mX2_atPlace.2.2.2.1 (d + 1) J) (hc : c_X2_atPlace_21 M a1 a2 x3 σ) (k : J 21 [some (.ref 510), some (.int a1), some (.int a2), some (.int x3), some (.int ((s_X2_atPlace_21 M a1 a2 x3 σ).1)), some (.int ((s_X2_atPlace_21 M a1 a2 x3 σ).2))] [] M) : J 21 [some (.ref 510), some (.int a1), some (.int a2), some (.int x3), some (.int σ.1), some (.int σ.2)] [] M := by
  unfold c_X2_atPlace_21 at hc
  unfold s_X2_atPlace_21 at k
  refine j_iload g (i := 5) (by decide +kernel) rfl ?_
  refine j_aload_n g (i := 0) (by decide +kernel) rfl ?_
  refine j_gA g (b := 100) f2_12 (by decide +kernel) (by decide +kernel) (by decide +kernel) (by decide +kernel) ?_
  refine j_gI g f2_129 (by decide +kernel) (by decide +kernel) (by decide +kernel) ?_
  refine j_icmp_ge g (off := 29) (tgt := 59) (by decide +kernel) (by decide) (fun c30 => ?_) (fun c30 => ?_)
  · (try rw [if_pos (show (M.1 100 2) ≤ σ.2 from c30)] at hc); (try simp only [if_pos (show (M.1 100 2) ≤ σ.2 from c30)] at k)
    exact hc.elim
  · (try rw [if_neg (show ¬ ((M.1 100 2) ≤ σ.2) from c30)] at hc); (try simp only [if_neg (show ¬ ((M.1 100 2) ≤ σ.2) from c30)] at k)
    refine j_iload_n g (i := 1) (by decide +kernel) rfl ?_
    refine j_iload g (i := 5) (by decide +kernel) rfl ?_
    refine j_cS2r g s2_71 (by decide +kernel) (Nat.le_of_ble_eq_true rfl) (rnX2_isIn) ?_
    refine j_if_eq g (off := 14) (tgt := 53) (by decide +kernel) (by decide) (fun c39 => ?_) (fun c39 => ?_)
    · (try rw [if_pos (show (b2i (¬ (a1 >>> (σ.2 &&& 31)) &&& 1 = 0)) = 0 from c39)] at hc); (try simp only [if_pos (show (b2i (¬ (a1 >>> (σ.2 &&& 31)) &&& 1 = 0)) = 0 from c39)] at k)
      refine j_iinc g (i := 5) (n := 1) (1) (by decide +kernel) rfl (by decide) rfl ?_
      dsimp only [stL, clL, hdL]
      refine j_goto g (off := -35) (tgt := 21) (by decide +kernel) (by decide) ?_
      exact k 
    · (try rw [if_neg (show ¬ ((b2i (¬ (a1 >>> (σ.2 &&& 31)) &&& 1 = 0)) = 0) from c39)] at hc); (try simp only [if_neg (show ¬ ((b2i (¬ (a1 >>> (σ.2 &&& 31)) &&& 1 = 0)) = 0) from c39)] at k)
      refine j_iload g (i := 4) (by decide +kernel) rfl ?_
      refine j_if_ne g (off := 6) (tgt := 50) (by decide +kernel) (by decide) (fun c44 => ?_) (fun c44 => ?_)
      · (try rw [if_pos (show ¬ σ.1 = 0 from c44)] at hc); (try simp only [if_pos (show ¬ σ.1 = 0 from c44)] at k)
        refine j_iinc g (i := 4) (n := -1) (-1) (by decide +kernel) rfl (by decide) rfl ?_
        dsimp only [stL, clL, hdL]
        refine j_iinc g (i := 5) (n := 1) (1) (by decide +kernel) rfl (by decide) rfl ?_
        dsimp only [stL, clL, hdL]
        refine j_goto g (off := -35) (tgt := 21) (by decide +kernel) (by decide) ?_
        exact k 
      · (try rw [if_neg (show ¬ (¬ σ.1 = 0) from c44)] at hc); (try simp only [if_neg (show ¬ (¬ σ.1 = 0) from c44)] at k)
        exact hc.elim
theorem sh_X2_atPlace_21 {d : Nat} {J : Nat → Lc → List Value → Mm → Prop} {M : Mm} {a1 : Int32} {a2 : Int32} {x3 : Int32} {σ0 : Int32 × Int32}  (g : Good mX2_atPlace.1 mX2_atPlace.2.2.1 mX2_atPlace.2.2.2.1 (d + 1) J) : ∀ (N : Nat), (∀ k, k < N → c_X2_atPlace_21 M a1 a2 x3 (l_X2_atPlace_21 M a1 a2 x3 σ0 k)) → (J 21 [some (.ref 510), some (.int a1), some (.int a2), some (.int x3), some (.int ((l_X2_atPlace_21 M a1 a2 x3 σ0 N).1)), some (.int ((l_X2_atPlace_21 M a1 a2 x3 σ0 N).2))] [] M) → J 21 [some (.ref 510), some (.int a1), some (.int a2), some (.int x3), some (.int σ0.1), some (.int σ0.2)] [] M
  | 0, _, k => k
  | N + 1, hc, k => sh_X2_atPlace_21  g N (fun i hi => hc i (Nat.lt_succ_of_lt hi)) (ps_X2_atPlace_21  g (hc N (Nat.lt_succ_self N)) k)
noncomputable def r_X2_atPlace_13 (M : Mm) (a1 : Int32) (a2 : Int32) (x3 : Int32) : Int32 := if (M.1 100 2) ≤ ((l_X2_atPlace_21 M a1 a2 x3 (a2 - a2 / x3 * x3, 0) (cntN (fun k => c_X2_atPlace_21 M a1 a2 x3 (l_X2_atPlace_21 M a1 a2 x3 (a2 - a2 / x3 * x3, 0) k)) 7)).2) then (-3) else if (b2i (¬ (a1 >>> (((l_X2_atPlace_21 M a1 a2 x3 (a2 - a2 / x3 * x3, 0) (cntN (fun k => c_X2_atPlace_21 M a1 a2 x3 (l_X2_atPlace_21 M a1 a2 x3 (a2 - a2 / x3 * x3, 0) k)) 7)).2) &&& 31)) &&& 1 = 0)) = 0 then 0 else if ¬ ((l_X2_atPlace_21 M a1 a2 x3 (a2 - a2 / x3 * x3, 0) (cntN (fun k => c_X2_atPlace_21 M a1 a2 x3 (l_X2_atPlace_21 M a1 a2 x3 (a2 - a2 / x3 * x3, 0) k)) 7)).1) = 0 then 0 else (l_X2_atPlace_21 M a1 a2 x3 (a2 - a2 / x3 * x3, 0) (cntN (fun k => c_X2_atPlace_21 M a1 a2 x3 (l_X2_atPlace_21 M a1 a2 x3 (a2 - a2 / x3 * x3, 0) k)) 7)).2
noncomputable def w_X2_atPlace_13 (M : Mm) (a1 : Int32) (a2 : Int32) (x3 : Int32) : Mm := M
def p_X2_atPlace_13 (M : Mm) (a1 : Int32) (a2 : Int32) (x3 : Int32) : Prop := (¬ x3 = 0) ∧ (∀ k, k < (cntN (fun k => c_X2_atPlace_21 M a1 a2 x3 (l_X2_atPlace_21 M a1 a2 x3 (a2 - a2 / x3 * x3, 0) k)) 7) → c_X2_atPlace_21 M a1 a2 x3 (l_X2_atPlace_21 M a1 a2 x3 (a2 - a2 / x3 * x3, 0) k)) ∧ (¬ c_X2_atPlace_21 M a1 a2 x3 (l_X2_atPlace_21 M a1 a2 x3 (a2 - a2 / x3 * x3, 0) (cntN (fun k => c_X2_atPlace_21 M a1 a2 x3 (l_X2_atPlace_21 M a1 a2 x3 (a2 - a2 / x3 * x3, 0) k)) 7))) ∧ (if (M.1 100 2) ≤ ((l_X2_atPlace_21 M a1 a2 x3 (a2 - a2 / x3 * x3, 0) (cntN (fun k => c_X2_atPlace_21 M a1 a2 x3 (l_X2_atPlace_21 M a1 a2 x3 (a2 - a2 / x3 * x3, 0) k)) 7)).2) then True else (if (b2i (¬ (a1 >>> (((l_X2_atPlace_21 M a1 a2 x3 (a2 - a2 / x3 * x3, 0) (cntN (fun k => c_X2_atPlace_21 M a1 a2 x3 (l_X2_atPlace_21 M a1 a2 x3 (a2 - a2 / x3 * x3, 0) k)) 7)).2) &&& 31)) &&& 1 = 0)) = 0 then True else (if ¬ ((l_X2_atPlace_21 M a1 a2 x3 (a2 - a2 / x3 * x3, 0) (cntN (fun k => c_X2_atPlace_21 M a1 a2 x3 (l_X2_atPlace_21 M a1 a2 x3 (a2 - a2 / x3 * x3, 0) k)) 7)).1) = 0 then True else True)))
theorem jn_X2_atPlace_13 {d : Nat} {J : Nat → Lc → List Value → Mm → Prop} {M : Mm} {a1 : Int32} {a2 : Int32} {x3 : Int32}  (g : Good mX2_atPlace.1 mX2_atPlace.2.2.1 mX2_atPlace.2.2.2.1 (d + 1) J) {rv : Option Value} {M1 : Mm} (hr : Ret mX2_atPlace.2.2.1 mX2_atPlace.2.2.2.2 rv M1 J) (hp : p_X2_atPlace_13 M a1 a2 x3) (hrv : rv = some (.int (r_X2_atPlace_13 M a1 a2 x3))) (hmm : M1 = w_X2_atPlace_13 M a1 a2 x3) : J 13 [some (.ref 510), some (.int a1), some (.int a2), some (.int x3), none, none] [] M := by
  unfold p_X2_atPlace_13 at hp
  refine j_iload_n g (i := 2) (by decide +kernel) rfl ?_
  refine j_iload_n g (i := 3) (by decide +kernel) rfl ?_
  obtain ⟨h0, hp⟩ := hp
  refine j_irem g (by decide +kernel) h0 ?_
  refine j_istore g (i := 4) (by decide +kernel) (by decide) ?_
  dsimp only [stL, clL, hdL]
  refine j_iconst g (n := 0) (0) (by decide +kernel) rfl ?_
  refine j_istore g (i := 5) (by decide +kernel) (by decide) ?_
  dsimp only [stL, clL, hdL]
  obtain ⟨h0, hp⟩ := hp
  have hc_21_1 := h0
  obtain ⟨h0, hp⟩ := hp
  have hx_21_1 := h0
  refine sh_X2_atPlace_21 (x3 := x3)  g (σ0 := (a2 - a2 / x3 * x3, 0)) (cntN (fun k => c_X2_atPlace_21 M a1 a2 x3 (l_X2_atPlace_21 M a1 a2 x3 (a2 - a2 / x3 * x3, 0) k)) 7) hc_21_1  ?_ 
  refine j_iload g (i := 5) (by decide +kernel) rfl ?_
  refine j_aload_n g (i := 0) (by decide +kernel) rfl ?_
  refine j_gA g (b := 100) f2_12 (by decide +kernel) (by decide +kernel) (by decide +kernel) (by decide +kernel) ?_
  refine j_gI g f2_129 (by decide +kernel) (by decide +kernel) (by decide +kernel) ?_
  refine j_icmp_ge g (off := 29) (tgt := 59) (by decide +kernel) (by decide) (fun c30 => ?_) (fun c30 => ?_)
  · rw [if_pos (show (M.1 100 2) ≤ ((l_X2_atPlace_21 M a1 a2 x3 (a2 - a2 / x3 * x3, 0) (cntN (fun k => c_X2_atPlace_21 M a1 a2 x3 (l_X2_atPlace_21 M a1 a2 x3 (a2 - a2 / x3 * x3, 0) k)) 7)).2) from c30)] at hp
    refine j_bipush g (n := -3) (-3) (by decide +kernel) (by decide +kernel) ?_
    refine hr.1 _ _ _ _ (by decide +kernel) ⟨_, rfl, by first | rfl | exact b2i_nar | decide +kernel⟩ ?_ ?_
    · rw [hrv]; unfold r_X2_atPlace_13; first | (simp only [if_pos (show (M.1 100 2) ≤ ((l_X2_atPlace_21 M a1 a2 x3 (a2 - a2 / x3 * x3, 0) (cntN (fun k => c_X2_atPlace_21 M a1 a2 x3 (l_X2_atPlace_21 M a1 a2 x3 (a2 - a2 / x3 * x3, 0) k)) 7)).2) from c30)]; done) | (simp only [if_pos (show (M.1 100 2) ≤ ((l_X2_atPlace_21 M a1 a2 x3 (a2 - a2 / x3 * x3, 0) (cntN (fun k => c_X2_atPlace_21 M a1 a2 x3 (l_X2_atPlace_21 M a1 a2 x3 (a2 - a2 / x3 * x3, 0) k)) 7)).2) from c30)]; rfl) | rfl
    · rw [hmm]; unfold w_X2_atPlace_13; first | (simp only [if_pos (show (M.1 100 2) ≤ ((l_X2_atPlace_21 M a1 a2 x3 (a2 - a2 / x3 * x3, 0) (cntN (fun k => c_X2_atPlace_21 M a1 a2 x3 (l_X2_atPlace_21 M a1 a2 x3 (a2 - a2 / x3 * x3, 0) k)) 7)).2) from c30)]; done) | (simp only [if_pos (show (M.1 100 2) ≤ ((l_X2_atPlace_21 M a1 a2 x3 (a2 - a2 / x3 * x3, 0) (cntN (fun k => c_X2_atPlace_21 M a1 a2 x3 (l_X2_atPlace_21 M a1 a2 x3 (a2 - a2 / x3 * x3, 0) k)) 7)).2) from c30)]; rfl) | rfl
  · rw [if_neg (show ¬ ((M.1 100 2) ≤ ((l_X2_atPlace_21 M a1 a2 x3 (a2 - a2 / x3 * x3, 0) (cntN (fun k => c_X2_atPlace_21 M a1 a2 x3 (l_X2_atPlace_21 M a1 a2 x3 (a2 - a2 / x3 * x3, 0) k)) 7)).2)) from c30)] at hp
    refine j_iload_n g (i := 1) (by decide +kernel) rfl ?_
    refine j_iload g (i := 5) (by decide +kernel) rfl ?_
    refine j_cS2r g s2_71 (by decide +kernel) (Nat.le_of_ble_eq_true rfl) (rnX2_isIn) ?_
    refine j_if_eq g (off := 14) (tgt := 53) (by decide +kernel) (by decide) (fun c39 => ?_) (fun c39 => ?_)
    · rw [if_pos (show (b2i (¬ (a1 >>> (((l_X2_atPlace_21 M a1 a2 x3 (a2 - a2 / x3 * x3, 0) (cntN (fun k => c_X2_atPlace_21 M a1 a2 x3 (l_X2_atPlace_21 M a1 a2 x3 (a2 - a2 / x3 * x3, 0) k)) 7)).2) &&& 31)) &&& 1 = 0)) = 0 from c39)] at hp
      refine absurd (ci_X2_atPlace_21.mpr ?_) hx_21_1
      simp only [if_neg (show ¬ ((M.1 100 2) ≤ ((l_X2_atPlace_21 M a1 a2 x3 (a2 - a2 / x3 * x3, 0) (cntN (fun k => c_X2_atPlace_21 M a1 a2 x3 (l_X2_atPlace_21 M a1 a2 x3 (a2 - a2 / x3 * x3, 0) k)) 7)).2)) from c30), if_pos (show (b2i (¬ (a1 >>> (((l_X2_atPlace_21 M a1 a2 x3 (a2 - a2 / x3 * x3, 0) (cntN (fun k => c_X2_atPlace_21 M a1 a2 x3 (l_X2_atPlace_21 M a1 a2 x3 (a2 - a2 / x3 * x3, 0) k)) 7)).2) &&& 31)) &&& 1 = 0)) = 0 from c39)]
    · rw [if_neg (show ¬ ((b2i (¬ (a1 >>> (((l_X2_atPlace_21 M a1 a2 x3 (a2 - a2 / x3 * x3, 0) (cntN (fun k => c_X2_atPlace_21 M a1 a2 x3 (l_X2_atPlace_21 M a1 a2 x3 (a2 - a2 / x3 * x3, 0) k)) 7)).2) &&& 31)) &&& 1 = 0)) = 0) from c39)] at hp
      refine j_iload g (i := 4) (by decide +kernel) rfl ?_
      refine j_if_ne g (off := 6) (tgt := 50) (by decide +kernel) (by decide) (fun c44 => ?_) (fun c44 => ?_)
      · rw [if_pos (show ¬ ((l_X2_atPlace_21 M a1 a2 x3 (a2 - a2 / x3 * x3, 0) (cntN (fun k => c_X2_atPlace_21 M a1 a2 x3 (l_X2_atPlace_21 M a1 a2 x3 (a2 - a2 / x3 * x3, 0) k)) 7)).1) = 0 from c44)] at hp
        refine absurd (ci_X2_atPlace_21.mpr ?_) hx_21_1
        simp only [if_neg (show ¬ ((M.1 100 2) ≤ ((l_X2_atPlace_21 M a1 a2 x3 (a2 - a2 / x3 * x3, 0) (cntN (fun k => c_X2_atPlace_21 M a1 a2 x3 (l_X2_atPlace_21 M a1 a2 x3 (a2 - a2 / x3 * x3, 0) k)) 7)).2)) from c30), if_neg (show ¬ ((b2i (¬ (a1 >>> (((l_X2_atPlace_21 M a1 a2 x3 (a2 - a2 / x3 * x3, 0) (cntN (fun k => c_X2_atPlace_21 M a1 a2 x3 (l_X2_atPlace_21 M a1 a2 x3 (a2 - a2 / x3 * x3, 0) k)) 7)).2) &&& 31)) &&& 1 = 0)) = 0) from c39), if_pos (show ¬ ((l_X2_atPlace_21 M a1 a2 x3 (a2 - a2 / x3 * x3, 0) (cntN (fun k => c_X2_atPlace_21 M a1 a2 x3 (l_X2_atPlace_21 M a1 a2 x3 (a2 - a2 / x3 * x3, 0) k)) 7)).1) = 0 from c44)]
      · rw [if_neg (show ¬ (¬ ((l_X2_atPlace_21 M a1 a2 x3 (a2 - a2 / x3 * x3, 0) (cntN (fun k => c_X2_atPlace_21 M a1 a2 x3 (l_X2_atPlace_21 M a1 a2 x3 (a2 - a2 / x3 * x3, 0) k)) 7)).1) = 0) from c44)] at hp
        refine j_iload g (i := 5) (by decide +kernel) rfl ?_
        refine hr.1 _ _ _ _ (by decide +kernel) ⟨_, rfl, by first | rfl | exact b2i_nar | decide +kernel⟩ ?_ ?_
        · rw [hrv]; unfold r_X2_atPlace_13; first | (simp only [if_neg (show ¬ ((M.1 100 2) ≤ ((l_X2_atPlace_21 M a1 a2 x3 (a2 - a2 / x3 * x3, 0) (cntN (fun k => c_X2_atPlace_21 M a1 a2 x3 (l_X2_atPlace_21 M a1 a2 x3 (a2 - a2 / x3 * x3, 0) k)) 7)).2)) from c30), if_neg (show ¬ ((b2i (¬ (a1 >>> (((l_X2_atPlace_21 M a1 a2 x3 (a2 - a2 / x3 * x3, 0) (cntN (fun k => c_X2_atPlace_21 M a1 a2 x3 (l_X2_atPlace_21 M a1 a2 x3 (a2 - a2 / x3 * x3, 0) k)) 7)).2) &&& 31)) &&& 1 = 0)) = 0) from c39), if_neg (show ¬ (¬ ((l_X2_atPlace_21 M a1 a2 x3 (a2 - a2 / x3 * x3, 0) (cntN (fun k => c_X2_atPlace_21 M a1 a2 x3 (l_X2_atPlace_21 M a1 a2 x3 (a2 - a2 / x3 * x3, 0) k)) 7)).1) = 0) from c44)]; done) | (simp only [if_neg (show ¬ ((M.1 100 2) ≤ ((l_X2_atPlace_21 M a1 a2 x3 (a2 - a2 / x3 * x3, 0) (cntN (fun k => c_X2_atPlace_21 M a1 a2 x3 (l_X2_atPlace_21 M a1 a2 x3 (a2 - a2 / x3 * x3, 0) k)) 7)).2)) from c30), if_neg (show ¬ ((b2i (¬ (a1 >>> (((l_X2_atPlace_21 M a1 a2 x3 (a2 - a2 / x3 * x3, 0) (cntN (fun k => c_X2_atPlace_21 M a1 a2 x3 (l_X2_atPlace_21 M a1 a2 x3 (a2 - a2 / x3 * x3, 0) k)) 7)).2) &&& 31)) &&& 1 = 0)) = 0) from c39), if_neg (show ¬ (¬ ((l_X2_atPlace_21 M a1 a2 x3 (a2 - a2 / x3 * x3, 0) (cntN (fun k => c_X2_atPlace_21 M a1 a2 x3 (l_X2_atPlace_21 M a1 a2 x3 (a2 - a2 / x3 * x3, 0) k)) 7)).1) = 0) from c44)]; rfl) | rfl
        · rw [hmm]; unfold w_X2_atPlace_13; first | (simp only [if_neg (show ¬ ((M.1 100 2) ≤ ((l_X2_atPlace_21 M a1 a2 x3 (a2 - a2 / x3 * x3, 0) (cntN (fun k => c_X2_atPlace_21 M a1 a2 x3 (l_X2_atPlace_21 M a1 a2 x3 (a2 - a2 / x3 * x3, 0) k)) 7)).2)) from c30), if_neg (show ¬ ((b2i (¬ (a1 >>> (((l_X2_atPlace_21 M a1 a2 x3 (a2 - a2 / x3 * x3, 0) (cntN (fun k => c_X2_atPlace_21 M a1 a2 x3 (l_X2_atPlace_21 M a1 a2 x3 (a2 - a2 / x3 * x3, 0) k)) 7)).2) &&& 31)) &&& 1 = 0)) = 0) from c39), if_neg (show ¬ (¬ ((l_X2_atPlace_21 M a1 a2 x3 (a2 - a2 / x3 * x3, 0) (cntN (fun k => c_X2_atPlace_21 M a1 a2 x3 (l_X2_atPlace_21 M a1 a2 x3 (a2 - a2 / x3 * x3, 0) k)) 7)).1) = 0) from c44)]; done) | (simp only [if_neg (show ¬ ((M.1 100 2) ≤ ((l_X2_atPlace_21 M a1 a2 x3 (a2 - a2 / x3 * x3, 0) (cntN (fun k => c_X2_atPlace_21 M a1 a2 x3 (l_X2_atPlace_21 M a1 a2 x3 (a2 - a2 / x3 * x3, 0) k)) 7)).2)) from c30), if_neg (show ¬ ((b2i (¬ (a1 >>> (((l_X2_atPlace_21 M a1 a2 x3 (a2 - a2 / x3 * x3, 0) (cntN (fun k => c_X2_atPlace_21 M a1 a2 x3 (l_X2_atPlace_21 M a1 a2 x3 (a2 - a2 / x3 * x3, 0) k)) 7)).2) &&& 31)) &&& 1 = 0)) = 0) from c39), if_neg (show ¬ (¬ ((l_X2_atPlace_21 M a1 a2 x3 (a2 - a2 / x3 * x3, 0) (cntN (fun k => c_X2_atPlace_21 M a1 a2 x3 (l_X2_atPlace_21 M a1 a2 x3 (a2 - a2 / x3 * x3, 0) k)) 7)).1) = 0) from c44)]; rfl) | rfl
noncomputable def r_X2_atPlace (M : Mm) (a1 : Int32) (a2 : Int32) : Int32 := if (1 : Int32) ≤ (r_J6_bitCount_0f7a4 M a1) then r_X2_atPlace_13 M a1 a2 (r_J6_bitCount_0f7a4 M a1) else (-3)
noncomputable def w_X2_atPlace (M : Mm) (a1 : Int32) (a2 : Int32) : Mm := if (1 : Int32) ≤ (r_J6_bitCount_0f7a4 M a1) then w_X2_atPlace_13 M a1 a2 (r_J6_bitCount_0f7a4 M a1) else M
def p_X2_atPlace (M : Mm) (a1 : Int32) (a2 : Int32) : Prop := (if (1 : Int32) ≤ (r_J6_bitCount_0f7a4 M a1) then p_X2_atPlace_13 M a1 a2 (r_J6_bitCount_0f7a4 M a1) else True)
set_option maxRecDepth 20000 in
theorem rnX2_atPlace {d : Nat} {M : Mm} {a1 : Int32} {a2 : Int32}  (hp : p_X2_atPlace M a1 a2) : Rn (d + 1) mX2_atPlace [.ref 510, .int a1, .int a2] M (some (.int (r_X2_atPlace M a1 a2))) (w_X2_atPlace M a1 a2) := by
  refine Rn.of [some (.ref 510), some (.int a1), some (.int a2), none, none, none] (by decide +kernel) rfl (Nat.le_of_ble_eq_true rfl) rfl (fun J g hr => ?_)
  unfold p_X2_atPlace at hp
  refine j_iload_n g (i := 1) (by decide +kernel) rfl ?_
  refine j_cS1r g s2_189 (by decide +kernel) (Nat.le_of_ble_eq_true rfl) (rnJ6_bitCount_0f7a4) ?_
  refine j_istore_n g (i := 3) (by decide +kernel) (by decide) ?_
  dsimp only [stL, clL, hdL]
  refine j_iload_n g (i := 3) (by decide +kernel) rfl ?_
  refine j_iconst g (n := 1) (1) (by decide +kernel) rfl ?_
  refine j_icmp_ge g (off := 6) (tgt := 13) (by decide +kernel) (by decide) (fun c7 => ?_) (fun c7 => ?_)
  · rw [if_pos (show (1 : Int32) ≤ (r_J6_bitCount_0f7a4 M a1) from c7)] at hp
    refine jn_X2_atPlace_13  g hr hp ?_ ?_ 
    · unfold r_X2_atPlace; first | (simp only [if_pos (show (1 : Int32) ≤ (r_J6_bitCount_0f7a4 M a1) from c7)]; done) | (simp only [if_pos (show (1 : Int32) ≤ (r_J6_bitCount_0f7a4 M a1) from c7)]; rfl) | rfl
    · unfold w_X2_atPlace; first | (simp only [if_pos (show (1 : Int32) ≤ (r_J6_bitCount_0f7a4 M a1) from c7)]; done) | (simp only [if_pos (show (1 : Int32) ≤ (r_J6_bitCount_0f7a4 M a1) from c7)]; rfl) | rfl
  · rw [if_neg (show ¬ ((1 : Int32) ≤ (r_J6_bitCount_0f7a4 M a1)) from c7)] at hp
    refine j_bipush g (n := -3) (-3) (by decide +kernel) (by decide +kernel) ?_
    refine hr.1 _ _ _ _ (by decide +kernel) ⟨_, rfl, by first | rfl | exact b2i_nar | decide +kernel⟩ ?_ ?_
    · unfold r_X2_atPlace; first | (simp only [if_neg (show ¬ ((1 : Int32) ≤ (r_J6_bitCount_0f7a4 M a1)) from c7)]; done) | (simp only [if_neg (show ¬ ((1 : Int32) ≤ (r_J6_bitCount_0f7a4 M a1)) from c7)]; rfl) | rfl
    · unfold w_X2_atPlace; first | (simp only [if_neg (show ¬ ((1 : Int32) ≤ (r_J6_bitCount_0f7a4 M a1)) from c7)]; done) | (simp only [if_neg (show ¬ ((1 : Int32) ≤ (r_J6_bitCount_0f7a4 M a1)) from c7)]; rfl) | rfl
noncomputable def r_X2_choice (M : Mm) (s : Nat) (a2 : Int32) : Int32 := if (M.1 105 (Int32.toNatClampNeg a2)) = 1 then r_X2_firstFrom M (r_X5_freeOnes M s) (M.1 106 (Int32.toNatClampNeg a2)) else if (M.1 105 (Int32.toNatClampNeg a2)) = 2 then r_X2_soonest M s (r_X5_freeOnes M s) else if (M.1 105 (Int32.toNatClampNeg a2)) = 3 then r_X2_worthiest M s (r_X5_freeOnes M s) else if (M.1 105 (Int32.toNatClampNeg a2)) = 4 then r_X2_firstFrom M (r_X2_greatestKind M (r_X5_freeOnes M s)) (M.1 106 (Int32.toNatClampNeg a2)) else if (M.1 105 (Int32.toNatClampNeg a2)) = 5 then r_X2_atPlace M (r_X5_freeOnes M s) (M.1 106 (Int32.toNatClampNeg a2)) else (-3)
noncomputable def w_X2_choice (M : Mm) (s : Nat) (a2 : Int32) : Mm := if (M.1 105 (Int32.toNatClampNeg a2)) = 1 then M else if (M.1 105 (Int32.toNatClampNeg a2)) = 2 then (w_X2_soonest M s (r_X5_freeOnes M s)) else if (M.1 105 (Int32.toNatClampNeg a2)) = 3 then (w_X2_worthiest M s (r_X5_freeOnes M s)) else if (M.1 105 (Int32.toNatClampNeg a2)) = 4 then M else if (M.1 105 (Int32.toNatClampNeg a2)) = 5 then (w_X2_atPlace M (r_X5_freeOnes M s) (M.1 106 (Int32.toNatClampNeg a2))) else M
def p_X2_choice (M : Mm) (s : Nat) (a2 : Int32) : Prop := (p_X5_freeOnes M s) ∧ (vp_in a2 4) ∧ (vp_in a2 4) ∧ (if (M.1 105 (Int32.toNatClampNeg a2)) = 1 then (p_X2_firstFrom M (r_X5_freeOnes M s) (M.1 106 (Int32.toNatClampNeg a2))) ∧ True else if (M.1 105 (Int32.toNatClampNeg a2)) = 2 then (p_X2_soonest M s (r_X5_freeOnes M s)) ∧ True else if (M.1 105 (Int32.toNatClampNeg a2)) = 3 then (p_X2_worthiest M s (r_X5_freeOnes M s)) ∧ True else if (M.1 105 (Int32.toNatClampNeg a2)) = 4 then (p_X2_greatestKind M (r_X5_freeOnes M s)) ∧ (p_X2_firstFrom M (r_X2_greatestKind M (r_X5_freeOnes M s)) (M.1 106 (Int32.toNatClampNeg a2))) ∧ True else if (M.1 105 (Int32.toNatClampNeg a2)) = 5 then (p_X2_atPlace M (r_X5_freeOnes M s) (M.1 106 (Int32.toNatClampNeg a2))) ∧ True else True)
set_option maxRecDepth 20000 in
theorem rnX2_choice {d : Nat} {M : Mm} {s : Nat} {a2 : Int32} (hs : isS s) (hp : p_X2_choice M s a2) : Rn (d + 4) mX2_choice [.ref 510, .ref s, .int a2] M (some (.int (r_X2_choice M s a2))) (w_X2_choice M s a2) := by
  refine Rn.of [some (.ref 510), some (.ref s), some (.int a2), none, none] (by decide +kernel) rfl (Nat.le_of_ble_eq_true rfl) rfl (fun J g hr => ?_)
  unfold p_X2_choice at hp
  refine j_aload_n g (i := 0) (by decide +kernel) rfl ?_
  refine j_gA g (b := 100) f2_12 (by decide +kernel) (by decide +kernel) (by decide +kernel) (by decide +kernel) ?_
  refine j_aload_n g (i := 1) (by decide +kernel) rfl ?_
  obtain ⟨h0, hp⟩ := hp
  refine j_cV1r g v2_122 ⟨rfl, by decide⟩ (by decide +kernel) (by decide +kernel) (Nat.le_of_ble_eq_true rfl) (rnX5_freeOnes (by first | exact hs | (simp [isS]; done)) h0) ?_
  refine j_istore_n g (i := 3) (by decide +kernel) (by decide) ?_
  dsimp only [stL, clL, hdL]
  refine j_aload_n g (i := 0) (by decide +kernel) rfl ?_
  refine j_gA g (b := 100) f2_12 (by decide +kernel) (by decide +kernel) (by decide +kernel) (by decide +kernel) ?_
  refine j_gA g (b := 106) f2_159 (by decide +kernel) (by decide +kernel) (by decide +kernel) (by decide +kernel) ?_
  refine j_iload_n g (i := 2) (by decide +kernel) rfl ?_
  obtain ⟨h0, hp⟩ := hp
  refine j_ia g 4 (by decide +kernel) (by decide +kernel) (by decide +kernel) h0 ?_
  refine j_istore g (i := 4) (by decide +kernel) (by decide) ?_
  dsimp only [stL, clL, hdL]
  refine j_aload_n g (i := 0) (by decide +kernel) rfl ?_
  refine j_gA g (b := 100) f2_12 (by decide +kernel) (by decide +kernel) (by decide +kernel) (by decide +kernel) ?_
  refine j_gA g (b := 105) f2_162 (by decide +kernel) (by decide +kernel) (by decide +kernel) (by decide +kernel) ?_
  refine j_iload_n g (i := 2) (by decide +kernel) rfl ?_
  obtain ⟨h0, hp⟩ := hp
  refine j_ia g 4 (by decide +kernel) (by decide +kernel) (by decide +kernel) h0 ?_
  have dsw29 : decode cX2_choice 29 = .ok (.tableswitch 77 1 5 #[35, 43, 50, 57, 69], 35) := by decide +kernel
  by_cases e29_0 : (M.1 105 (Int32.toNatClampNeg a2)) = 1
  · refine j_tableIn g (off := 35) (tgt := 64) dsw29 (by rw [e29_0]; decide) (by rw [e29_0]; decide) (by rw [e29_0]; decide) (by decide) ?_
    rw [if_pos e29_0] at hp
    refine j_aload_n g (i := 0) (by decide +kernel) rfl ?_
    refine j_iload_n g (i := 3) (by decide +kernel) rfl ?_
    refine j_iload g (i := 4) (by decide +kernel) rfl ?_
    obtain ⟨h0, hp⟩ := hp
    refine j_cV2r g v2_165 ⟨rfl, by decide⟩ (by decide +kernel) (by decide +kernel) (Nat.le_of_ble_eq_true rfl) (rnX2_firstFrom h0) ?_
    refine hr.1 _ _ _ _ (by decide +kernel) ⟨_, rfl, by first | rfl | exact b2i_nar | rfl⟩ ?_ ?_
    · unfold r_X2_choice; first | (simp only [if_pos e29_0]; done) | (simp only [if_pos e29_0]; rfl) | rfl
    · unfold w_X2_choice; first | (simp only [if_pos e29_0]; done) | (simp only [if_pos e29_0]; rfl) | rfl
  by_cases e29_1 : (M.1 105 (Int32.toNatClampNeg a2)) = 2
  · refine j_tableIn g (off := 43) (tgt := 72) dsw29 (by rw [e29_1]; decide) (by rw [e29_1]; decide) (by rw [e29_1]; decide) (by decide) ?_
    rw [if_neg e29_0, if_pos e29_1] at hp
    refine j_aload_n g (i := 0) (by decide +kernel) rfl ?_
    refine j_aload_n g (i := 1) (by decide +kernel) rfl ?_
    refine j_iload_n g (i := 3) (by decide +kernel) rfl ?_
    obtain ⟨h0, hp⟩ := hp
    refine j_cV2r g v2_168 ⟨rfl, by decide⟩ (by decide +kernel) (by decide +kernel) (Nat.le_of_ble_eq_true rfl) (rnX2_soonest (by first | exact hs | (simp [isS]; done)) h0) ?_
    refine hr.1 _ _ _ _ (by decide +kernel) ⟨_, rfl, by first | rfl | exact b2i_nar | rfl⟩ ?_ ?_
    · unfold r_X2_choice; first | (simp only [if_neg e29_0, if_pos e29_1]; done) | (simp only [if_neg e29_0, if_pos e29_1]; rfl) | rfl
    · unfold w_X2_choice; first | (simp only [if_neg e29_0, if_pos e29_1]; done) | (simp only [if_neg e29_0, if_pos e29_1]; rfl) | rfl
  by_cases e29_2 : (M.1 105 (Int32.toNatClampNeg a2)) = 3
  · refine j_tableIn g (off := 50) (tgt := 79) dsw29 (by rw [e29_2]; decide) (by rw [e29_2]; decide) (by rw [e29_2]; decide) (by decide) ?_
    rw [if_neg e29_0, if_neg e29_1, if_pos e29_2] at hp
    refine j_aload_n g (i := 0) (by decide +kernel) rfl ?_
    refine j_aload_n g (i := 1) (by decide +kernel) rfl ?_
    refine j_iload_n g (i := 3) (by decide +kernel) rfl ?_
    obtain ⟨h0, hp⟩ := hp
    refine j_cV2r g v2_171 ⟨rfl, by decide⟩ (by decide +kernel) (by decide +kernel) (Nat.le_of_ble_eq_true rfl) (rnX2_worthiest (by first | exact hs | (simp [isS]; done)) h0) ?_
    refine hr.1 _ _ _ _ (by decide +kernel) ⟨_, rfl, by first | rfl | exact b2i_nar | rfl⟩ ?_ ?_
    · unfold r_X2_choice; first | (simp only [if_neg e29_0, if_neg e29_1, if_pos e29_2]; done) | (simp only [if_neg e29_0, if_neg e29_1, if_pos e29_2]; rfl) | rfl
    · unfold w_X2_choice; first | (simp only [if_neg e29_0, if_neg e29_1, if_pos e29_2]; done) | (simp only [if_neg e29_0, if_neg e29_1, if_pos e29_2]; rfl) | rfl
  by_cases e29_3 : (M.1 105 (Int32.toNatClampNeg a2)) = 4
  · refine j_tableIn g (off := 57) (tgt := 86) dsw29 (by rw [e29_3]; decide) (by rw [e29_3]; decide) (by rw [e29_3]; decide) (by decide) ?_
    rw [if_neg e29_0, if_neg e29_1, if_neg e29_2, if_pos e29_3] at hp
    refine j_aload_n g (i := 0) (by decide +kernel) rfl ?_
    refine j_aload_n g (i := 0) (by decide +kernel) rfl ?_
    refine j_iload_n g (i := 3) (by decide +kernel) rfl ?_
    obtain ⟨h0, hp⟩ := hp
    refine j_cV1r g v2_174 ⟨rfl, by decide⟩ (by decide +kernel) (by decide +kernel) (Nat.le_of_ble_eq_true rfl) (rnX2_greatestKind h0) ?_
    refine j_iload g (i := 4) (by decide +kernel) rfl ?_
    obtain ⟨h0, hp⟩ := hp
    refine j_cV2r g v2_165 ⟨rfl, by decide⟩ (by decide +kernel) (by decide +kernel) (Nat.le_of_ble_eq_true rfl) (rnX2_firstFrom h0) ?_
    refine hr.1 _ _ _ _ (by decide +kernel) ⟨_, rfl, by first | rfl | exact b2i_nar | rfl⟩ ?_ ?_
    · unfold r_X2_choice; first | (simp only [if_neg e29_0, if_neg e29_1, if_neg e29_2, if_pos e29_3]; done) | (simp only [if_neg e29_0, if_neg e29_1, if_neg e29_2, if_pos e29_3]; rfl) | rfl
    · unfold w_X2_choice; first | (simp only [if_neg e29_0, if_neg e29_1, if_neg e29_2, if_pos e29_3]; done) | (simp only [if_neg e29_0, if_neg e29_1, if_neg e29_2, if_pos e29_3]; rfl) | rfl
  by_cases e29_4 : (M.1 105 (Int32.toNatClampNeg a2)) = 5
  · refine j_tableIn g (off := 69) (tgt := 98) dsw29 (by rw [e29_4]; decide) (by rw [e29_4]; decide) (by rw [e29_4]; decide) (by decide) ?_
    rw [if_neg e29_0, if_neg e29_1, if_neg e29_2, if_neg e29_3, if_pos e29_4] at hp
    refine j_aload_n g (i := 0) (by decide +kernel) rfl ?_
    refine j_iload_n g (i := 3) (by decide +kernel) rfl ?_
    refine j_iload g (i := 4) (by decide +kernel) rfl ?_
    obtain ⟨h0, hp⟩ := hp
    refine j_cV2r g v2_177 ⟨rfl, by decide⟩ (by decide +kernel) (by decide +kernel) (Nat.le_of_ble_eq_true rfl) (rnX2_atPlace h0) ?_
    refine hr.1 _ _ _ _ (by decide +kernel) ⟨_, rfl, by first | rfl | exact b2i_nar | rfl⟩ ?_ ?_
    · unfold r_X2_choice; first | (simp only [if_neg e29_0, if_neg e29_1, if_neg e29_2, if_neg e29_3, if_pos e29_4]; done) | (simp only [if_neg e29_0, if_neg e29_1, if_neg e29_2, if_neg e29_3, if_pos e29_4]; rfl) | rfl
    · unfold w_X2_choice; first | (simp only [if_neg e29_0, if_neg e29_1, if_neg e29_2, if_neg e29_3, if_pos e29_4]; done) | (simp only [if_neg e29_0, if_neg e29_1, if_neg e29_2, if_neg e29_3, if_pos e29_4]; rfl) | rfl
  rw [if_neg e29_0, if_neg e29_1, if_neg e29_2, if_neg e29_3, if_neg e29_4] at hp
  refine j_tableOut g (tgt := 106) dsw29 (by simp only [← Int32.toInt_inj, Int32.reduceToInt, im1, im2, im3] at e29_0 e29_1 e29_2 e29_3 e29_4; omega) (by decide) ?_
  refine j_bipush g (n := -3) (-3) (by decide +kernel) (by decide +kernel) ?_
  refine hr.1 _ _ _ _ (by decide +kernel) ⟨_, rfl, by first | rfl | exact b2i_nar | rfl⟩ ?_ ?_
  · unfold r_X2_choice; first | (simp only [if_neg e29_0, if_neg e29_1, if_neg e29_2, if_neg e29_3, if_neg e29_4]; done) | (simp only [if_neg e29_0, if_neg e29_1, if_neg e29_2, if_neg e29_3, if_neg e29_4]; rfl) | rfl
  · unfold w_X2_choice; first | (simp only [if_neg e29_0, if_neg e29_1, if_neg e29_2, if_neg e29_3, if_neg e29_4]; done) | (simp only [if_neg e29_0, if_neg e29_1, if_neg e29_2, if_neg e29_3, if_neg e29_4]; rfl) | rfl
def c_X2_digitsByRule_23_70 (M : Mm) (a1 : Int32) (y3 : Int32) (y4 : Int32) (y5 : Int32) : Prop := True
noncomputable def s_X2_digitsByRule_23_70 (M : Mm) (a1 : Int32) (y3 : Int32) (y4 : Int32) (y5 : Int32) : Mm × Int32 × Int32 := (M, y3, y4 + 1)
def c_X2_digitsByRule_23_59 (M : Mm) (a1 : Int32) (y3 : Int32) (y4 : Int32) (y5 : Int32) : Prop := True
noncomputable def s_X2_digitsByRule_23_59 (M : Mm) (a1 : Int32) (y3 : Int32) (y4 : Int32) (y5 : Int32) : Mm × Int32 × Int32 := s_X2_digitsByRule_23_70 (wi M 512 (Int32.toNatClampNeg y3) y5) a1 (y3 + 1) y4 y5
def q_X2_digitsByRule_23_59 (M : Mm) (a1 : Int32) (y3 : Int32) (y4 : Int32) (y5 : Int32) : Prop := (vp_in y3 6) ∧ True
def c_X2_digitsByRule_23_43 (M : Mm) (a1 : Int32) (y3 : Int32) (y4 : Int32) (y5 : Int32) : Prop := True
noncomputable def s_X2_digitsByRule_23_43 (M : Mm) (a1 : Int32) (y3 : Int32) (y4 : Int32) (y5 : Int32) : Mm × Int32 × Int32 := if y5 < 0 then s_X2_digitsByRule_23_70 M a1 y3 y4 y5 else s_X2_digitsByRule_23_59 (w_X5_carryOut M 1030 y5) a1 y3 y4 y5
def q_X2_digitsByRule_23_43 (M : Mm) (a1 : Int32) (y3 : Int32) (y4 : Int32) (y5 : Int32) : Prop := (if y5 < 0 then True else (p_X5_carryOut M 1030 y5) ∧ q_X2_digitsByRule_23_59 (w_X5_carryOut M 1030 y5) a1 y3 y4 y5)
def c_X2_digitsByRule_23 (a1 : Int32) (σ : Mm × Int32 × Int32) : Prop := if (σ.1.1 100 2) ≤ σ.2.2 then False else True
theorem ci_X2_digitsByRule_23 {a1 : Int32}  {σ : Mm × Int32 × Int32} : c_X2_digitsByRule_23 a1 σ ↔ (if (σ.1.1 100 2) ≤ σ.2.2 then False else True) := Iff.rfl
noncomputable def s_X2_digitsByRule_23 (a1 : Int32) (σ : Mm × Int32 × Int32) : Mm × Int32 × Int32 := if (σ.1.1 100 2) ≤ σ.2.2 then σ else s_X2_digitsByRule_23_43 (w_X2_choice σ.1 1030 a1) a1 σ.2.1 σ.2.2 (r_X2_choice σ.1 1030 a1)
def q_X2_digitsByRule_23 (a1 : Int32) (σ : Mm × Int32 × Int32) : Prop := (if (σ.1.1 100 2) ≤ σ.2.2 then True else (p_X2_choice σ.1 1030 a1) ∧ q_X2_digitsByRule_23_43 (w_X2_choice σ.1 1030 a1) a1 σ.2.1 σ.2.2 (r_X2_choice σ.1 1030 a1))
noncomputable def l_X2_digitsByRule_23 (a1 : Int32) (σ0 : Mm × Int32 × Int32) : Nat → Mm × Int32 × Int32 := itN (fun _ σ => s_X2_digitsByRule_23 a1 σ) σ0
theorem pj_X2_digitsByRule_23_70 {d : Nat} {J : Nat → Lc → List Value → Mm → Prop} {M : Mm} {a1 : Int32}  {y3 : Int32} {y4 : Int32} {y5 : Int32}  (g : Good mX2_digitsByRule.1 mX2_digitsByRule.2.2.1 mX2_digitsByRule.2.2.2.1 (d + 5) J) (hc : c_X2_digitsByRule_23_70 M a1 y3 y4 y5) (k : ∀ (j5 : Option Value), J 23 [some (.ref 510), some (.int a1), some (.ref 1030), some (.int ((s_X2_digitsByRule_23_70 M a1 y3 y4 y5).2.1)), some (.int ((s_X2_digitsByRule_23_70 M a1 y3 y4 y5).2.2)), j5] [] ((s_X2_digitsByRule_23_70 M a1 y3 y4 y5).1)) : J 70 [some (.ref 510), some (.int a1), some (.ref 1030), some (.int y3), some (.int y4), some (.int y5)] [] M := by
  unfold c_X2_digitsByRule_23_70 at hc
  unfold s_X2_digitsByRule_23_70 at k
  refine j_iinc g (i := 4) (n := 1) (1) (by decide +kernel) rfl (by decide) rfl ?_
  dsimp only [stL, clL, hdL]
  refine j_goto g (off := -50) (tgt := 23) (by decide +kernel) (by decide) ?_
  exact k _
theorem pj_X2_digitsByRule_23_59 {d : Nat} {J : Nat → Lc → List Value → Mm → Prop} {M : Mm} {a1 : Int32}  {y3 : Int32} {y4 : Int32} {y5 : Int32}  (g : Good mX2_digitsByRule.1 mX2_digitsByRule.2.2.1 mX2_digitsByRule.2.2.2.1 (d + 5) J) (hc : c_X2_digitsByRule_23_59 M a1 y3 y4 y5) (hp : q_X2_digitsByRule_23_59 M a1 y3 y4 y5) (k : ∀ (j5 : Option Value), J 23 [some (.ref 510), some (.int a1), some (.ref 1030), some (.int ((s_X2_digitsByRule_23_59 M a1 y3 y4 y5).2.1)), some (.int ((s_X2_digitsByRule_23_59 M a1 y3 y4 y5).2.2)), j5] [] ((s_X2_digitsByRule_23_59 M a1 y3 y4 y5).1)) : J 59 [some (.ref 510), some (.int a1), some (.ref 1030), some (.int y3), some (.int y4), some (.int y5)] [] M := by
  unfold c_X2_digitsByRule_23_59 at hc
  unfold q_X2_digitsByRule_23_59 at hp
  unfold s_X2_digitsByRule_23_59 at k
  refine j_aload_n g (i := 0) (by decide +kernel) rfl ?_
  refine j_gA g (b := 512) f2_24 (by decide +kernel) (by decide +kernel) (by decide +kernel) (by decide +kernel) ?_
  refine j_iload_n g (i := 3) (by decide +kernel) rfl ?_
  refine j_iload g (i := 5) (by decide +kernel) rfl ?_
  obtain ⟨h0, hp⟩ := hp
  refine j_is g 6 (by decide +kernel) (by decide +kernel) (by decide +kernel) h0 ?_
  refine j_iinc g (i := 3) (n := 1) (1) (by decide +kernel) rfl (by decide) rfl ?_
  dsimp only [stL, clL, hdL]
  exact pj_X2_digitsByRule_23_70  g trivial  k 
theorem pj_X2_digitsByRule_23_43 {d : Nat} {J : Nat → Lc → List Value → Mm → Prop} {M : Mm} {a1 : Int32}  {y3 : Int32} {y4 : Int32} {y5 : Int32}  (g : Good mX2_digitsByRule.1 mX2_digitsByRule.2.2.1 mX2_digitsByRule.2.2.2.1 (d + 5) J) (hc : c_X2_digitsByRule_23_43 M a1 y3 y4 y5) (hp : q_X2_digitsByRule_23_43 M a1 y3 y4 y5) (k : ∀ (j5 : Option Value), J 23 [some (.ref 510), some (.int a1), some (.ref 1030), some (.int ((s_X2_digitsByRule_23_43 M a1 y3 y4 y5).2.1)), some (.int ((s_X2_digitsByRule_23_43 M a1 y3 y4 y5).2.2)), j5] [] ((s_X2_digitsByRule_23_43 M a1 y3 y4 y5).1)) : J 43 [some (.ref 510), some (.int a1), some (.ref 1030), some (.int y3), some (.int y4), some (.int y5)] [] M := by
  unfold c_X2_digitsByRule_23_43 at hc
  unfold q_X2_digitsByRule_23_43 at hp
  unfold s_X2_digitsByRule_23_43 at k
  refine j_iload g (i := 5) (by decide +kernel) rfl ?_
  refine j_if_lt g (off := 25) (tgt := 70) (by decide +kernel) (by decide) (fun c45 => ?_) (fun c45 => ?_)
  · (try rw [if_pos (show y5 < 0 from c45)] at hc); (rw [if_pos (show y5 < 0 from c45)] at hp); (try simp only [if_pos (show y5 < 0 from c45)] at k)
    exact pj_X2_digitsByRule_23_70  g trivial  k 
  · (try rw [if_neg (show ¬ (y5 < 0) from c45)] at hc); (rw [if_neg (show ¬ (y5 < 0) from c45)] at hp); (try simp only [if_neg (show ¬ (y5 < 0) from c45)] at k)
    refine j_aload_n g (i := 0) (by decide +kernel) rfl ?_
    refine j_gA g (b := 100) f2_12 (by decide +kernel) (by decide +kernel) (by decide +kernel) (by decide +kernel) ?_
    refine j_aload_n g (i := 2) (by decide +kernel) rfl ?_
    refine j_iload g (i := 5) (by decide +kernel) rfl ?_
    obtain ⟨h0, hp⟩ := hp
    refine j_cV2r g v2_98 ⟨rfl, by decide⟩ (by decide +kernel) (by decide +kernel) (Nat.le_of_ble_eq_true rfl) (rnX5_carryOut (by simp [isS]) h0) ?_
    refine j_pop g (by decide +kernel) rfl ?_
    exact pj_X2_digitsByRule_23_59  g trivial hp k 
theorem ps_X2_digitsByRule_23 {d : Nat} {J : Nat → Lc → List Value → Mm → Prop} {a1 : Int32}  {σ : Mm × Int32 × Int32}  (g : Good mX2_digitsByRule.1 mX2_digitsByRule.2.2.1 mX2_digitsByRule.2.2.2.1 (d + 5) J) (hc : c_X2_digitsByRule_23 a1 σ) (hp : q_X2_digitsByRule_23 a1 σ) (k : ∀ (j5 : Option Value), J 23 [some (.ref 510), some (.int a1), some (.ref 1030), some (.int ((s_X2_digitsByRule_23 a1 σ).2.1)), some (.int ((s_X2_digitsByRule_23 a1 σ).2.2)), j5] [] ((s_X2_digitsByRule_23 a1 σ).1)) : ∀ (j5 : Option Value), J 23 [some (.ref 510), some (.int a1), some (.ref 1030), some (.int σ.2.1), some (.int σ.2.2), j5] [] σ.1 := by
  intro j5
  unfold c_X2_digitsByRule_23 at hc
  unfold q_X2_digitsByRule_23 at hp
  unfold s_X2_digitsByRule_23 at k
  refine j_iload g (i := 4) (by decide +kernel) rfl ?_
  refine j_aload_n g (i := 0) (by decide +kernel) rfl ?_
  refine j_gA g (b := 100) f2_12 (by decide +kernel) (by decide +kernel) (by decide +kernel) (by decide +kernel) ?_
  refine j_gI g f2_129 (by decide +kernel) (by decide +kernel) (by decide +kernel) ?_
  refine j_icmp_ge g (off := 44) (tgt := 76) (by decide +kernel) (by decide) (fun c32 => ?_) (fun c32 => ?_)
  · (try rw [if_pos (show (σ.1.1 100 2) ≤ σ.2.2 from c32)] at hc); (rw [if_pos (show (σ.1.1 100 2) ≤ σ.2.2 from c32)] at hp); (try simp only [if_pos (show (σ.1.1 100 2) ≤ σ.2.2 from c32)] at k)
    exact hc.elim
  · (try rw [if_neg (show ¬ ((σ.1.1 100 2) ≤ σ.2.2) from c32)] at hc); (rw [if_neg (show ¬ ((σ.1.1 100 2) ≤ σ.2.2) from c32)] at hp); (try simp only [if_neg (show ¬ ((σ.1.1 100 2) ≤ σ.2.2) from c32)] at k)
    refine j_aload_n g (i := 0) (by decide +kernel) rfl ?_
    refine j_aload_n g (i := 2) (by decide +kernel) rfl ?_
    refine j_iload_n g (i := 1) (by decide +kernel) rfl ?_
    obtain ⟨h0, hp⟩ := hp
    refine j_cV2r g v2_194 ⟨rfl, by decide⟩ (by decide +kernel) (by decide +kernel) (Nat.le_of_ble_eq_true rfl) (rnX2_choice (by simp [isS]) h0) ?_
    refine j_istore g (i := 5) (by decide +kernel) (by decide) ?_
    dsimp only [stL, clL, hdL]
    exact pj_X2_digitsByRule_23_43  g trivial hp k 
theorem sh_X2_digitsByRule_23 {d : Nat} {J : Nat → Lc → List Value → Mm → Prop} {a1 : Int32}  {σ0 : Mm × Int32 × Int32}  (g : Good mX2_digitsByRule.1 mX2_digitsByRule.2.2.1 mX2_digitsByRule.2.2.2.1 (d + 5) J) : ∀ (N : Nat), (∀ k, k < N → c_X2_digitsByRule_23 a1 (l_X2_digitsByRule_23 a1 σ0 k)) → (∀ k, k < N → q_X2_digitsByRule_23 a1 (l_X2_digitsByRule_23 a1 σ0 k)) → (∀ (j5 : Option Value), J 23 [some (.ref 510), some (.int a1), some (.ref 1030), some (.int ((l_X2_digitsByRule_23 a1 σ0 N).2.1)), some (.int ((l_X2_digitsByRule_23 a1 σ0 N).2.2)), j5] [] ((l_X2_digitsByRule_23 a1 σ0 N).1)) → ∀ (j5 : Option Value), J 23 [some (.ref 510), some (.int a1), some (.ref 1030), some (.int σ0.2.1), some (.int σ0.2.2), j5] [] σ0.1
  | 0, _, _, k => k
  | N + 1, hc, hp, k => sh_X2_digitsByRule_23  g N (fun i hi => hc i (Nat.lt_succ_of_lt hi)) (fun i hi => hp i (Nat.lt_succ_of_lt hi)) (ps_X2_digitsByRule_23  g (hc N (Nat.lt_succ_self N)) (hp N (Nat.lt_succ_self N)) k)
noncomputable def r_X2_digitsByRule_18 (M : Mm) (a1 : Int32)  : Int32 := if ((l_X2_digitsByRule_23 a1 (M, 0, 0) (Int32.toNatClampNeg (M.1 100 2))).1.1 100 2) ≤ ((l_X2_digitsByRule_23 a1 (M, 0, 0) (Int32.toNatClampNeg (M.1 100 2))).2.2) then r_X2_digitsOf (l_X2_digitsByRule_23 a1 (M, 0, 0) (Int32.toNatClampNeg (M.1 100 2))).1 ((l_X2_digitsByRule_23 a1 (M, 0, 0) (Int32.toNatClampNeg (M.1 100 2))).2.1) else 0
noncomputable def w_X2_digitsByRule_18 (M : Mm) (a1 : Int32)  : Mm := if ((l_X2_digitsByRule_23 a1 (M, 0, 0) (Int32.toNatClampNeg (M.1 100 2))).1.1 100 2) ≤ ((l_X2_digitsByRule_23 a1 (M, 0, 0) (Int32.toNatClampNeg (M.1 100 2))).2.2) then (l_X2_digitsByRule_23 a1 (M, 0, 0) (Int32.toNatClampNeg (M.1 100 2))).1 else M
def p_X2_digitsByRule_18 (M : Mm) (a1 : Int32)  : Prop := (∀ k, k < (Int32.toNatClampNeg (M.1 100 2)) → c_X2_digitsByRule_23 a1 (l_X2_digitsByRule_23 a1 (M, 0, 0) k)) ∧ (∀ k, k < (Int32.toNatClampNeg (M.1 100 2)) → q_X2_digitsByRule_23 a1 (l_X2_digitsByRule_23 a1 (M, 0, 0) k)) ∧ (¬ c_X2_digitsByRule_23 a1 (l_X2_digitsByRule_23 a1 (M, 0, 0) (Int32.toNatClampNeg (M.1 100 2)))) ∧ (if ((l_X2_digitsByRule_23 a1 (M, 0, 0) (Int32.toNatClampNeg (M.1 100 2))).1.1 100 2) ≤ ((l_X2_digitsByRule_23 a1 (M, 0, 0) (Int32.toNatClampNeg (M.1 100 2))).2.2) then (p_X2_digitsOf (l_X2_digitsByRule_23 a1 (M, 0, 0) (Int32.toNatClampNeg (M.1 100 2))).1 ((l_X2_digitsByRule_23 a1 (M, 0, 0) (Int32.toNatClampNeg (M.1 100 2))).2.1)) ∧ True else True)
theorem jn_X2_digitsByRule_18 {d : Nat} {J : Nat → Lc → List Value → Mm → Prop} {M : Mm} {a1 : Int32}   (g : Good mX2_digitsByRule.1 mX2_digitsByRule.2.2.1 mX2_digitsByRule.2.2.2.1 (d + 5) J) {rv : Option Value} {M1 : Mm} (hr : Ret mX2_digitsByRule.2.2.1 mX2_digitsByRule.2.2.2.2 rv M1 J) (hp : p_X2_digitsByRule_18 M a1 ) (hrv : rv = some (.int (r_X2_digitsByRule_18 M a1 ))) (hmm : M1 = w_X2_digitsByRule_18 M a1 ) : J 18 [some (.ref 510), some (.int a1), some (.ref 1030), none, none, none] [] M := by
  unfold p_X2_digitsByRule_18 at hp
  refine j_iconst g (n := 0) (0) (by decide +kernel) rfl ?_
  refine j_istore_n g (i := 3) (by decide +kernel) (by decide) ?_
  dsimp only [stL, clL, hdL]
  refine j_iconst g (n := 0) (0) (by decide +kernel) rfl ?_
  refine j_istore g (i := 4) (by decide +kernel) (by decide) ?_
  dsimp only [stL, clL, hdL]
  obtain ⟨h0, hp⟩ := hp
  have hc_23_1 := h0
  obtain ⟨h0, hp⟩ := hp
  have hq_23_1 := h0
  obtain ⟨h0, hp⟩ := hp
  have hx_23_1 := h0
  refine sh_X2_digitsByRule_23   g (σ0 := (M, 0, 0)) (Int32.toNatClampNeg (M.1 100 2)) hc_23_1 hq_23_1 ?_ _
  intro j5_1
  refine j_iload g (i := 4) (by decide +kernel) rfl ?_
  refine j_aload_n g (i := 0) (by decide +kernel) rfl ?_
  refine j_gA g (b := 100) f2_12 (by decide +kernel) (by decide +kernel) (by decide +kernel) (by decide +kernel) ?_
  refine j_gI g f2_129 (by decide +kernel) (by decide +kernel) (by decide +kernel) ?_
  refine j_icmp_ge g (off := 44) (tgt := 76) (by decide +kernel) (by decide) (fun c32 => ?_) (fun c32 => ?_)
  · rw [if_pos (show ((l_X2_digitsByRule_23 a1 (M, 0, 0) (Int32.toNatClampNeg (M.1 100 2))).1.1 100 2) ≤ ((l_X2_digitsByRule_23 a1 (M, 0, 0) (Int32.toNatClampNeg (M.1 100 2))).2.2) from c32)] at hp
    refine j_aload_n g (i := 0) (by decide +kernel) rfl ?_
    refine j_iload_n g (i := 3) (by decide +kernel) rfl ?_
    obtain ⟨h0, hp⟩ := hp
    refine j_cV1r g v2_135 ⟨rfl, by decide⟩ (by decide +kernel) (by decide +kernel) (Nat.le_of_ble_eq_true rfl) (rnX2_digitsOf h0) ?_
    refine hr.1 _ _ _ _ (by decide +kernel) ⟨_, rfl, by first | rfl | exact b2i_nar | decide +kernel⟩ ?_ ?_
    · rw [hrv]; unfold r_X2_digitsByRule_18; first | (simp only [if_pos (show ((l_X2_digitsByRule_23 a1 (M, 0, 0) (Int32.toNatClampNeg (M.1 100 2))).1.1 100 2) ≤ ((l_X2_digitsByRule_23 a1 (M, 0, 0) (Int32.toNatClampNeg (M.1 100 2))).2.2) from c32)]; done) | (simp only [if_pos (show ((l_X2_digitsByRule_23 a1 (M, 0, 0) (Int32.toNatClampNeg (M.1 100 2))).1.1 100 2) ≤ ((l_X2_digitsByRule_23 a1 (M, 0, 0) (Int32.toNatClampNeg (M.1 100 2))).2.2) from c32)]; rfl) | rfl
    · rw [hmm]; unfold w_X2_digitsByRule_18; first | (simp only [if_pos (show ((l_X2_digitsByRule_23 a1 (M, 0, 0) (Int32.toNatClampNeg (M.1 100 2))).1.1 100 2) ≤ ((l_X2_digitsByRule_23 a1 (M, 0, 0) (Int32.toNatClampNeg (M.1 100 2))).2.2) from c32)]; done) | (simp only [if_pos (show ((l_X2_digitsByRule_23 a1 (M, 0, 0) (Int32.toNatClampNeg (M.1 100 2))).1.1 100 2) ≤ ((l_X2_digitsByRule_23 a1 (M, 0, 0) (Int32.toNatClampNeg (M.1 100 2))).2.2) from c32)]; rfl) | rfl
  · rw [if_neg (show ¬ (((l_X2_digitsByRule_23 a1 (M, 0, 0) (Int32.toNatClampNeg (M.1 100 2))).1.1 100 2) ≤ ((l_X2_digitsByRule_23 a1 (M, 0, 0) (Int32.toNatClampNeg (M.1 100 2))).2.2)) from c32)] at hp
    refine absurd (ci_X2_digitsByRule_23.mpr ?_) hx_23_1
    simp only [if_neg (show ¬ (((l_X2_digitsByRule_23 a1 (M, 0, 0) (Int32.toNatClampNeg (M.1 100 2))).1.1 100 2) ≤ ((l_X2_digitsByRule_23 a1 (M, 0, 0) (Int32.toNatClampNeg (M.1 100 2))).2.2)) from c32)]
noncomputable def r_X2_digitsByRule (M : Mm) (a1 : Int32) : Int32 := r_X2_digitsByRule_18 (w_X3_beginFrom M 1030 1000) a1
noncomputable def w_X2_digitsByRule (M : Mm) (a1 : Int32) : Mm := w_X2_digitsByRule_18 (w_X3_beginFrom M 1030 1000) a1
def p_X2_digitsByRule (M : Mm) (a1 : Int32) : Prop := p_X2_digitsByRule_18 (w_X3_beginFrom M 1030 1000) a1
set_option maxRecDepth 20000 in
theorem rnX2_digitsByRule {d : Nat} {M : Mm} {a1 : Int32}  (hp : p_X2_digitsByRule M a1) : Rn (d + 5) mX2_digitsByRule [.ref 510, .int a1] M (some (.int (r_X2_digitsByRule M a1))) (w_X2_digitsByRule M a1) := by
  refine Rn.of [some (.ref 510), some (.int a1), none, none, none, none] (by decide +kernel) rfl (Nat.le_of_ble_eq_true rfl) rfl (fun J g hr => ?_)
  unfold p_X2_digitsByRule at hp
  refine j_aload_n g (i := 0) (by decide +kernel) rfl ?_
  refine j_gA g (b := 511) f2_20 (by decide +kernel) (by decide +kernel) (by decide +kernel) (by decide +kernel) ?_
  refine j_iconst g (n := 0) (0) (by decide +kernel) rfl ?_
  refine j_aS g (b := 1030) 7 (by decide +kernel) (by decide +kernel) (by decide +kernel) (vin_b (by decide +kernel)) (by decide +kernel) ?_
  refine j_astore_n g (i := 2) (by decide +kernel) (by decide) ?_
  dsimp only [stL, clL, hdL]
  refine j_aload_n g (i := 2) (by decide +kernel) rfl ?_
  refine j_aload_n g (i := 0) (by decide +kernel) rfl ?_
  refine j_gA g (b := 100) f2_12 (by decide +kernel) (by decide +kernel) (by decide +kernel) (by decide +kernel) ?_
  refine j_gA g (b := 1000) f2_59 (by decide +kernel) (by decide +kernel) (by decide +kernel) (by decide +kernel) ?_
  refine j_cV1v g v2_84 ⟨rfl, by decide⟩ (by decide +kernel) (by decide +kernel) (Nat.le_of_ble_eq_true rfl) (rnX3_beginFrom (by simp [isS]) (by simp [isS])) ?_
  refine jn_X2_digitsByRule_18  g hr hp ?_ ?_ 
  · unfold r_X2_digitsByRule; rfl
  · unfold w_X2_digitsByRule; rfl
noncomputable def r_X7_takes (M : Mm) (a1 : Int32) : Int32 := if (b2i (0 ≤ a1 ∧ a1 < M.1 100 3)) = 0 then (-1) else r_X2_choice M 1000 a1
noncomputable def w_X7_takes (M : Mm) (a1 : Int32) : Mm := if (b2i (0 ≤ a1 ∧ a1 < M.1 100 3)) = 0 then M else (w_X2_choice M 1000 a1)
def p_X7_takes (M : Mm) (a1 : Int32) : Prop := (if (b2i (0 ≤ a1 ∧ a1 < M.1 100 3)) = 0 then True else (p_X2_choice M 1000 a1) ∧ True)
set_option maxRecDepth 20000 in
theorem rnX7_takes {d : Nat} {M : Mm} {a1 : Int32}  (hp : p_X7_takes M a1) : Rn (d + 5) mX7_takes [.ref 1, .int a1] M (some (.int (r_X7_takes M a1))) (w_X7_takes M a1) := by
  refine Rn.of [some (.ref 1), some (.int a1)] (by decide +kernel) rfl (Nat.le_of_ble_eq_true rfl) rfl (fun J g hr => ?_)
  unfold p_X7_takes at hp
  refine j_aload_n g (i := 0) (by decide +kernel) rfl ?_
  refine j_gA g (b := 100) f7_20 (by decide +kernel) (by decide +kernel) (by decide +kernel) (by decide +kernel) ?_
  refine j_iload_n g (i := 1) (by decide +kernel) rfl ?_
  refine j_cV1r g v7_234 ⟨rfl, by decide⟩ (by decide +kernel) (by decide +kernel) (Nat.le_of_ble_eq_true rfl) (rnX5_hasRule) ?_
  refine j_if_eq g (off := 21) (tgt := 29) (by decide +kernel) (by decide) (fun c8 => ?_) (fun c8 => ?_)
  · rw [if_pos (show (b2i (0 ≤ a1 ∧ a1 < M.1 100 3)) = 0 from c8)] at hp
    refine j_iconst g (n := -1) (-1) (by decide +kernel) rfl ?_
    refine hr.1 _ _ _ _ (by decide +kernel) ⟨_, rfl, by first | rfl | exact b2i_nar | decide +kernel⟩ ?_ ?_
    · unfold r_X7_takes; first | (simp only [if_pos (show (b2i (0 ≤ a1 ∧ a1 < M.1 100 3)) = 0 from c8)]; done) | (simp only [if_pos (show (b2i (0 ≤ a1 ∧ a1 < M.1 100 3)) = 0 from c8)]; rfl) | rfl
    · unfold w_X7_takes; first | (simp only [if_pos (show (b2i (0 ≤ a1 ∧ a1 < M.1 100 3)) = 0 from c8)]; done) | (simp only [if_pos (show (b2i (0 ≤ a1 ∧ a1 < M.1 100 3)) = 0 from c8)]; rfl) | rfl
  · rw [if_neg (show ¬ ((b2i (0 ≤ a1 ∧ a1 < M.1 100 3)) = 0) from c8)] at hp
    refine j_aload_n g (i := 0) (by decide +kernel) rfl ?_
    refine j_gA g (b := 510) f7_10 (by decide +kernel) (by decide +kernel) (by decide +kernel) (by decide +kernel) ?_
    refine j_aload_n g (i := 0) (by decide +kernel) rfl ?_
    refine j_gA g (b := 100) f7_20 (by decide +kernel) (by decide +kernel) (by decide +kernel) (by decide +kernel) ?_
    refine j_gA g (b := 1000) f7_112 (by decide +kernel) (by decide +kernel) (by decide +kernel) (by decide +kernel) ?_
    refine j_iload_n g (i := 1) (by decide +kernel) rfl ?_
    obtain ⟨h0, hp⟩ := hp
    refine j_cV2r g v7_243 ⟨rfl, by decide⟩ (by decide +kernel) (by decide +kernel) (Nat.le_of_ble_eq_true rfl) (rnX2_choice (by simp [isS]) h0) ?_
    refine j_goto g (off := 4) (tgt := 30) (by decide +kernel) (by decide) ?_
    refine hr.1 _ _ _ _ (by decide +kernel) ⟨_, rfl, by first | rfl | exact b2i_nar | decide +kernel⟩ ?_ ?_
    · unfold r_X7_takes; first | (simp only [if_neg (show ¬ ((b2i (0 ≤ a1 ∧ a1 < M.1 100 3)) = 0) from c8)]; done) | (simp only [if_neg (show ¬ ((b2i (0 ≤ a1 ∧ a1 < M.1 100 3)) = 0) from c8)]; rfl) | rfl
    · unfold w_X7_takes; first | (simp only [if_neg (show ¬ ((b2i (0 ≤ a1 ∧ a1 < M.1 100 3)) = 0) from c8)]; done) | (simp only [if_neg (show ¬ ((b2i (0 ≤ a1 ∧ a1 < M.1 100 3)) = 0) from c8)]; rfl) | rfl
noncomputable def r_X7_orderOf (M : Mm) (a1 : Int32) : Int32 := if (b2i (0 ≤ a1 ∧ a1 < M.1 100 3)) = 0 then (-1) else r_X2_digitsByRule M a1
noncomputable def w_X7_orderOf (M : Mm) (a1 : Int32) : Mm := if (b2i (0 ≤ a1 ∧ a1 < M.1 100 3)) = 0 then M else (w_X2_digitsByRule M a1)
def p_X7_orderOf (M : Mm) (a1 : Int32) : Prop := (if (b2i (0 ≤ a1 ∧ a1 < M.1 100 3)) = 0 then True else (p_X2_digitsByRule M a1) ∧ True)
set_option maxRecDepth 20000 in
theorem rnX7_orderOf {d : Nat} {M : Mm} {a1 : Int32}  (hp : p_X7_orderOf M a1) : Rn (d + 6) mX7_orderOf [.ref 1, .int a1] M (some (.int (r_X7_orderOf M a1))) (w_X7_orderOf M a1) := by
  refine Rn.of [some (.ref 1), some (.int a1)] (by decide +kernel) rfl (Nat.le_of_ble_eq_true rfl) rfl (fun J g hr => ?_)
  unfold p_X7_orderOf at hp
  refine j_aload_n g (i := 0) (by decide +kernel) rfl ?_
  refine j_gA g (b := 100) f7_20 (by decide +kernel) (by decide +kernel) (by decide +kernel) (by decide +kernel) ?_
  refine j_iload_n g (i := 1) (by decide +kernel) rfl ?_
  refine j_cV1r g v7_234 ⟨rfl, by decide⟩ (by decide +kernel) (by decide +kernel) (Nat.le_of_ble_eq_true rfl) (rnX5_hasRule) ?_
  refine j_if_eq g (off := 14) (tgt := 22) (by decide +kernel) (by decide) (fun c8 => ?_) (fun c8 => ?_)
  · rw [if_pos (show (b2i (0 ≤ a1 ∧ a1 < M.1 100 3)) = 0 from c8)] at hp
    refine j_iconst g (n := -1) (-1) (by decide +kernel) rfl ?_
    refine hr.1 _ _ _ _ (by decide +kernel) ⟨_, rfl, by first | rfl | exact b2i_nar | decide +kernel⟩ ?_ ?_
    · unfold r_X7_orderOf; first | (simp only [if_pos (show (b2i (0 ≤ a1 ∧ a1 < M.1 100 3)) = 0 from c8)]; done) | (simp only [if_pos (show (b2i (0 ≤ a1 ∧ a1 < M.1 100 3)) = 0 from c8)]; rfl) | rfl
    · unfold w_X7_orderOf; first | (simp only [if_pos (show (b2i (0 ≤ a1 ∧ a1 < M.1 100 3)) = 0 from c8)]; done) | (simp only [if_pos (show (b2i (0 ≤ a1 ∧ a1 < M.1 100 3)) = 0 from c8)]; rfl) | rfl
  · rw [if_neg (show ¬ ((b2i (0 ≤ a1 ∧ a1 < M.1 100 3)) = 0) from c8)] at hp
    refine j_aload_n g (i := 0) (by decide +kernel) rfl ?_
    refine j_gA g (b := 510) f7_10 (by decide +kernel) (by decide +kernel) (by decide +kernel) (by decide +kernel) ?_
    refine j_iload_n g (i := 1) (by decide +kernel) rfl ?_
    obtain ⟨h0, hp⟩ := hp
    refine j_cV1r g v7_246 ⟨rfl, by decide⟩ (by decide +kernel) (by decide +kernel) (Nat.le_of_ble_eq_true rfl) (rnX2_digitsByRule h0) ?_
    refine j_goto g (off := 4) (tgt := 23) (by decide +kernel) (by decide) ?_
    refine hr.1 _ _ _ _ (by decide +kernel) ⟨_, rfl, by first | rfl | exact b2i_nar | decide +kernel⟩ ?_ ?_
    · unfold r_X7_orderOf; first | (simp only [if_neg (show ¬ ((b2i (0 ≤ a1 ∧ a1 < M.1 100 3)) = 0) from c8)]; done) | (simp only [if_neg (show ¬ ((b2i (0 ≤ a1 ∧ a1 < M.1 100 3)) = 0) from c8)]; rfl) | rfl
    · unfold w_X7_orderOf; first | (simp only [if_neg (show ¬ ((b2i (0 ≤ a1 ∧ a1 < M.1 100 3)) = 0) from c8)]; done) | (simp only [if_neg (show ¬ ((b2i (0 ≤ a1 ∧ a1 < M.1 100 3)) = 0) from c8)]; rfl) | rfl
