/-! the law: its script, its cases -/
def GoodS (bytes : ByteArray) (mL d Ln : Nat) (xs : Nat → Int32) (J : Nat → Lc → List Value → Mm → Prop) : Prop :=
  ∃ (p : Program) (l : Launch) (e : Env) (R : Room) (s : State) (m : MethodId) (args : Array Value) (below : List Frame) (meth : Method) (c : Code) (cells slots : Nat) (Z : State → Prop) (D : va_G) (r : Nat → Nat) (cA : Nat → ClassId) (A : Nat → Prop),
    (p.tables.exec = Jvm.exec ∧ c.code = bytes ∧ c.maxLocals = mL ∧ s.vm.findClass (om_own 9) = some m.cls ∧ (∀ w ∈ BIG, w.before args s = true) ∧ va_K D om_cl (om_tys cA) s ∧ Ex r A s ∧ (∀ {M : Mm}, va_D A (om_ws r cA M)) ∧ d ≤ R.frames ∧ 64 * d ≤ R.locals ∧ cells ≤ R.cells ∧ slots ≤ R.slots) ∧ (r 900 < s.heap.size ∧ ¬ A (r 900) ∧ va_X (r 900) Ln xs s s.heap) ∧
    J = fun pc L st M => ∀ (H : Heap) (locs : List Loc) (ls : Array Slot), va_P D om_cl (om_ws r cA M) H → va_S A s.heap H locs → lvA r L ls mL → W p l e R s m args below meth c H locs cells slots Z (F0 m pc ls (st.map (om_cv r)))
section B9
variable {bytes : ByteArray} {mL d Ln : Nat} {xs : Nat → Int32} {J : Nat → Lc → List Value → Mm → Prop} {pc : Nat} {L : Lc} {st : List Value} {M M1 M2 : Mm} {i : Int32}
theorem GoodS.g (h : GoodS bytes mL d Ln xs J) : Good 9 bytes mL d J := by
  obtain ⟨p, l, e, R, s, m, args, below, meth, c, cells, slots, Z, D, r, cA, A, h1, -, h3⟩ := h
  exact ⟨p, l, e, R, s, m, args, below, meth, c, cells, slots, Z, D, r, cA, A, h1, h3⟩
theorem j_slen (h : GoodS bytes mL d Ln xs J) (hd : decode bytes pc = .ok (.arraylength, 1)) (k : J (pc + 1) L (.int (Int32.ofNat Ln) :: st) M) : J pc L (.ref 900 :: st) M := by
  obtain ⟨p, l, e, R, s, m, args, below, meth, c, cells, slots, Z, D, r, cA, A, ⟨hx, hb, -⟩, ⟨h1, h2, h3⟩, rfl⟩ := h
  intro H locs ls hP hS hl
  exact va_slen hx hb h3 h1 h2 hS hd (k H locs ls hP hS hl)
theorem j_sld (h : GoodS bytes mL d Ln xs J) (hin : vp_in i Ln) (hd : decode bytes pc = .ok (.iaload, 1)) (k : J (pc + 1) L (.int (xs i.toNatClampNeg) :: st) M) : J pc L (.int i :: .ref 900 :: st) M := by
  obtain ⟨p, l, e, R, s, m, args, below, meth, c, cells, slots, Z, D, r, cA, A, ⟨hx, hb, -⟩, ⟨h1, h2, h3⟩, rfl⟩ := h
  intro H locs ls hP hS hl
  exact va_sld hx hb h3 h1 h2 hS hin hd (k H locs ls hP hS hl)
theorem lc_0 (gs : GoodS code 4 31 Ln xs J) {v w : Int32} (h1 : vp_in (i + 1) Ln) (h2 : vp_in (i + 2) Ln) (h3 : vp_in (i + 3) Ln) (ha : Rn 30 mX7_feed [.ref 1, .long ((((xs (Int32.toNatClampNeg (i + 1))).toInt64 <<< (Int32.toInt64 32 &&& 63)) ||| ((xs (Int32.toNatClampNeg (i + 2))).toInt64 &&& 4294967295))), .int (xs (Int32.toNatClampNeg (i + 3)))] M (some (.int v)) M1) (hb : Rn 30 mX8_feed [.ref 600, .long ((((xs (Int32.toNatClampNeg (i + 1))).toInt64 <<< (Int32.toInt64 32 &&& 63)) ||| ((xs (Int32.toNatClampNeg (i + 2))).toInt64 &&& 4294967295))), .int (xs (Int32.toNatClampNeg (i + 3)))] M1 (some (.int w)) M2) (e : v = w) (k : J 1483 [some (.ref 900), some (.ref 1), some (.ref 600), some (.int i)] [] M2) : J 220 [some (.ref 900), some (.ref 1), some (.ref 600), some (.int i)] [] M := by
  have g := gs.g
  refine j_aload_n g (pc := 220) (i := 1) (by decide +kernel) rfl ?_
  refine j_aload_n g (pc := 221) (i := 0) (by decide +kernel) rfl ?_
  refine j_iload_n g (pc := 222) (i := 3) (by decide +kernel) rfl ?_
  refine j_iconst g (pc := 223) (n := 1) (1) (by decide +kernel) rfl ?_
  refine j_iadd g (pc := 224) (by decide +kernel) ?_
  refine j_sld gs (pc := 225) h1 (by decide +kernel) ?_
  refine j_i2l g (pc := 226) (by decide +kernel) ?_
  refine j_bipush g (pc := 227) (n := 32) (32) (by decide +kernel) (by decide +kernel) ?_
  refine j_lshl g (pc := 229) (by decide +kernel) ?_
  refine j_aload_n g (pc := 230) (i := 0) (by decide +kernel) rfl ?_
  refine j_iload_n g (pc := 231) (i := 3) (by decide +kernel) rfl ?_
  refine j_iconst g (pc := 232) (n := 2) (2) (by decide +kernel) rfl ?_
  refine j_iadd g (pc := 233) (by decide +kernel) ?_
  refine j_sld gs (pc := 234) h2 (by decide +kernel) ?_
  refine j_i2l g (pc := 235) (by decide +kernel) ?_
  refine j_ldc2 g (pc := 236) (n := 13) (4294967295) (by decide +kernel) k9_13 ?_
  refine j_land g (pc := 239) (by decide +kernel) ?_
  refine j_lor g (pc := 240) (by decide +kernel) ?_
  refine j_aload_n g (pc := 241) (i := 0) (by decide +kernel) rfl ?_
  refine j_iload_n g (pc := 242) (i := 3) (by decide +kernel) rfl ?_
  refine j_iconst g (pc := 243) (n := 3) (3) (by decide +kernel) rfl ?_
  refine j_iadd g (pc := 244) (by decide +kernel) ?_
  refine j_sld gs (pc := 245) h3 (by decide +kernel) ?_
  refine j_cV2r g (pc := 246) v9_15 ⟨rfl, by decide⟩ (by decide +kernel) (by decide +kernel) (Nat.le_of_ble_eq_true rfl) ha ?_
  refine j_aload_n g (pc := 249) (i := 2) (by decide +kernel) rfl ?_
  refine j_aload_n g (pc := 250) (i := 0) (by decide +kernel) rfl ?_
  refine j_iload_n g (pc := 251) (i := 3) (by decide +kernel) rfl ?_
  refine j_iconst g (pc := 252) (n := 1) (1) (by decide +kernel) rfl ?_
  refine j_iadd g (pc := 253) (by decide +kernel) ?_
  refine j_sld gs (pc := 254) h1 (by decide +kernel) ?_
  refine j_i2l g (pc := 255) (by decide +kernel) ?_
  refine j_bipush g (pc := 256) (n := 32) (32) (by decide +kernel) (by decide +kernel) ?_
  refine j_lshl g (pc := 258) (by decide +kernel) ?_
  refine j_aload_n g (pc := 259) (i := 0) (by decide +kernel) rfl ?_
  refine j_iload_n g (pc := 260) (i := 3) (by decide +kernel) rfl ?_
  refine j_iconst g (pc := 261) (n := 2) (2) (by decide +kernel) rfl ?_
  refine j_iadd g (pc := 262) (by decide +kernel) ?_
  refine j_sld gs (pc := 263) h2 (by decide +kernel) ?_
  refine j_i2l g (pc := 264) (by decide +kernel) ?_
  refine j_ldc2 g (pc := 265) (n := 13) (4294967295) (by decide +kernel) k9_13 ?_
  refine j_land g (pc := 268) (by decide +kernel) ?_
  refine j_lor g (pc := 269) (by decide +kernel) ?_
  refine j_aload_n g (pc := 270) (i := 0) (by decide +kernel) rfl ?_
  refine j_iload_n g (pc := 271) (i := 3) (by decide +kernel) rfl ?_
  refine j_iconst g (pc := 272) (n := 3) (3) (by decide +kernel) rfl ?_
  refine j_iadd g (pc := 273) (by decide +kernel) ?_
  refine j_sld gs (pc := 274) h3 (by decide +kernel) ?_
  refine j_cV2r g (pc := 275) v9_19 ⟨rfl, by decide⟩ (by decide +kernel) (by decide +kernel) (Nat.le_of_ble_eq_true rfl) hb ?_
  exact j_icmp_eq g (pc := 278) (off := 1205) (tgt := 1483) (by decide +kernel) (by decide) (fun _ => k) (fun h => absurd e h)
theorem lc_1 (gs : GoodS code 4 31 Ln xs J) {v w : Int32}  (ha : Rn 30 mX7_town [.ref 1] M (some (.int v)) M1) (hb : Rn 30 mX8_town [.ref 600] M1 (some (.int w)) M2) (e : v = w) (k : J 1483 [some (.ref 900), some (.ref 1), some (.ref 600), some (.int i)] [] M2) : J 283 [some (.ref 900), some (.ref 1), some (.ref 600), some (.int i)] [] M := by
  have g := gs.g
  refine j_aload_n g (pc := 283) (i := 1) (by decide +kernel) rfl ?_
  refine j_cV0r g (pc := 284) v9_20 ⟨rfl, by decide⟩ (by decide +kernel) (by decide +kernel) (Nat.le_of_ble_eq_true rfl) ha ?_
  refine j_aload_n g (pc := 287) (i := 2) (by decide +kernel) rfl ?_
  refine j_cV0r g (pc := 288) v9_24 ⟨rfl, by decide⟩ (by decide +kernel) (by decide +kernel) (Nat.le_of_ble_eq_true rfl) hb ?_
  exact j_icmp_eq g (pc := 291) (off := 1192) (tgt := 1483) (by decide +kernel) (by decide) (fun _ => k) (fun h => absurd e h)
theorem lc_2 (gs : GoodS code 4 31 Ln xs J) {v w : Int32} (h1 : vp_in (i + 1) Ln) (h2 : vp_in (i + 2) Ln) (ha : Rn 30 mX7_mover [.ref 1, .int (xs (Int32.toNatClampNeg (i + 1))), .int (xs (Int32.toNatClampNeg (i + 2)))] M (some (.int v)) M1) (hb : Rn 30 mX8_mover [.ref 600, .int (xs (Int32.toNatClampNeg (i + 1))), .int (xs (Int32.toNatClampNeg (i + 2)))] M1 (some (.int w)) M2) (e : v = w) (k : J 1483 [some (.ref 900), some (.ref 1), some (.ref 600), some (.int i)] [] M2) : J 296 [some (.ref 900), some (.ref 1), some (.ref 600), some (.int i)] [] M := by
  have g := gs.g
  refine j_aload_n g (pc := 296) (i := 1) (by decide +kernel) rfl ?_
  refine j_aload_n g (pc := 297) (i := 0) (by decide +kernel) rfl ?_
  refine j_iload_n g (pc := 298) (i := 3) (by decide +kernel) rfl ?_
  refine j_iconst g (pc := 299) (n := 1) (1) (by decide +kernel) rfl ?_
  refine j_iadd g (pc := 300) (by decide +kernel) ?_
  refine j_sld gs (pc := 301) h1 (by decide +kernel) ?_
  refine j_aload_n g (pc := 302) (i := 0) (by decide +kernel) rfl ?_
  refine j_iload_n g (pc := 303) (i := 3) (by decide +kernel) rfl ?_
  refine j_iconst g (pc := 304) (n := 2) (2) (by decide +kernel) rfl ?_
  refine j_iadd g (pc := 305) (by decide +kernel) ?_
  refine j_sld gs (pc := 306) h2 (by decide +kernel) ?_
  refine j_cV2r g (pc := 307) v9_25 ⟨rfl, by decide⟩ (by decide +kernel) (by decide +kernel) (Nat.le_of_ble_eq_true rfl) ha ?_
  refine j_aload_n g (pc := 310) (i := 2) (by decide +kernel) rfl ?_
  refine j_aload_n g (pc := 311) (i := 0) (by decide +kernel) rfl ?_
  refine j_iload_n g (pc := 312) (i := 3) (by decide +kernel) rfl ?_
  refine j_iconst g (pc := 313) (n := 1) (1) (by decide +kernel) rfl ?_
  refine j_iadd g (pc := 314) (by decide +kernel) ?_
  refine j_sld gs (pc := 315) h1 (by decide +kernel) ?_
  refine j_aload_n g (pc := 316) (i := 0) (by decide +kernel) rfl ?_
  refine j_iload_n g (pc := 317) (i := 3) (by decide +kernel) rfl ?_
  refine j_iconst g (pc := 318) (n := 2) (2) (by decide +kernel) rfl ?_
  refine j_iadd g (pc := 319) (by decide +kernel) ?_
  refine j_sld gs (pc := 320) h2 (by decide +kernel) ?_
  refine j_cV2r g (pc := 321) v9_29 ⟨rfl, by decide⟩ (by decide +kernel) (by decide +kernel) (Nat.le_of_ble_eq_true rfl) hb ?_
  exact j_icmp_eq g (pc := 324) (off := 1159) (tgt := 1483) (by decide +kernel) (by decide) (fun _ => k) (fun h => absurd e h)
theorem lc_3 (gs : GoodS code 4 31 Ln xs J) {v w : Int32} (h1 : vp_in (i + 1) Ln) (h2 : vp_in (i + 2) Ln) (ha : Rn 30 mX7_thing [.ref 1, .int (xs (Int32.toNatClampNeg (i + 1))), .int (xs (Int32.toNatClampNeg (i + 2)))] M (some (.int v)) M1) (hb : Rn 30 mX8_thing [.ref 600, .int (xs (Int32.toNatClampNeg (i + 1))), .int (xs (Int32.toNatClampNeg (i + 2)))] M1 (some (.int w)) M2) (e : v = w) (k : J 1483 [some (.ref 900), some (.ref 1), some (.ref 600), some (.int i)] [] M2) : J 329 [some (.ref 900), some (.ref 1), some (.ref 600), some (.int i)] [] M := by
  have g := gs.g
  refine j_aload_n g (pc := 329) (i := 1) (by decide +kernel) rfl ?_
  refine j_aload_n g (pc := 330) (i := 0) (by decide +kernel) rfl ?_
  refine j_iload_n g (pc := 331) (i := 3) (by decide +kernel) rfl ?_
  refine j_iconst g (pc := 332) (n := 1) (1) (by decide +kernel) rfl ?_
  refine j_iadd g (pc := 333) (by decide +kernel) ?_
  refine j_sld gs (pc := 334) h1 (by decide +kernel) ?_
  refine j_aload_n g (pc := 335) (i := 0) (by decide +kernel) rfl ?_
  refine j_iload_n g (pc := 336) (i := 3) (by decide +kernel) rfl ?_
  refine j_iconst g (pc := 337) (n := 2) (2) (by decide +kernel) rfl ?_
  refine j_iadd g (pc := 338) (by decide +kernel) ?_
  refine j_sld gs (pc := 339) h2 (by decide +kernel) ?_
  refine j_cV2r g (pc := 340) v9_30 ⟨rfl, by decide⟩ (by decide +kernel) (by decide +kernel) (Nat.le_of_ble_eq_true rfl) ha ?_
  refine j_aload_n g (pc := 343) (i := 2) (by decide +kernel) rfl ?_
  refine j_aload_n g (pc := 344) (i := 0) (by decide +kernel) rfl ?_
  refine j_iload_n g (pc := 345) (i := 3) (by decide +kernel) rfl ?_
  refine j_iconst g (pc := 346) (n := 1) (1) (by decide +kernel) rfl ?_
  refine j_iadd g (pc := 347) (by decide +kernel) ?_
  refine j_sld gs (pc := 348) h1 (by decide +kernel) ?_
  refine j_aload_n g (pc := 349) (i := 0) (by decide +kernel) rfl ?_
  refine j_iload_n g (pc := 350) (i := 3) (by decide +kernel) rfl ?_
  refine j_iconst g (pc := 351) (n := 2) (2) (by decide +kernel) rfl ?_
  refine j_iadd g (pc := 352) (by decide +kernel) ?_
  refine j_sld gs (pc := 353) h2 (by decide +kernel) ?_
  refine j_cV2r g (pc := 354) v9_33 ⟨rfl, by decide⟩ (by decide +kernel) (by decide +kernel) (Nat.le_of_ble_eq_true rfl) hb ?_
  exact j_icmp_eq g (pc := 357) (off := 1126) (tgt := 1483) (by decide +kernel) (by decide) (fun _ => k) (fun h => absurd e h)
theorem lc_4 (gs : GoodS code 4 31 Ln xs J) {v w : Int32} (h1 : vp_in (i + 1) Ln) (h2 : vp_in (i + 2) Ln) (h3 : vp_in (i + 3) Ln) (h4 : vp_in (i + 4) Ln) (h5 : vp_in (i + 5) Ln) (h6 : vp_in (i + 6) Ln) (ha : Rn 30 mX7_work [.ref 1, .int (xs (Int32.toNatClampNeg (i + 1))), .int (xs (Int32.toNatClampNeg (i + 2))), .int (xs (Int32.toNatClampNeg (i + 3))), .int (xs (Int32.toNatClampNeg (i + 4))), .int (xs (Int32.toNatClampNeg (i + 5))), .int (xs (Int32.toNatClampNeg (i + 6)))] M (some (.int v)) M1) (hb : Rn 30 mX8_work [.ref 600, .int (xs (Int32.toNatClampNeg (i + 1))), .int (xs (Int32.toNatClampNeg (i + 2))), .int (xs (Int32.toNatClampNeg (i + 3))), .int (xs (Int32.toNatClampNeg (i + 4))), .int (xs (Int32.toNatClampNeg (i + 5))), .int (xs (Int32.toNatClampNeg (i + 6)))] M1 (some (.int w)) M2) (e : v = w) (k : J 1483 [some (.ref 900), some (.ref 1), some (.ref 600), some (.int i)] [] M2) : J 362 [some (.ref 900), some (.ref 1), some (.ref 600), some (.int i)] [] M := by
  have g := gs.g
  refine j_aload_n g (pc := 362) (i := 1) (by decide +kernel) rfl ?_
  refine j_aload_n g (pc := 363) (i := 0) (by decide +kernel) rfl ?_
  refine j_iload_n g (pc := 364) (i := 3) (by decide +kernel) rfl ?_
  refine j_iconst g (pc := 365) (n := 1) (1) (by decide +kernel) rfl ?_
  refine j_iadd g (pc := 366) (by decide +kernel) ?_
  refine j_sld gs (pc := 367) h1 (by decide +kernel) ?_
  refine j_aload_n g (pc := 368) (i := 0) (by decide +kernel) rfl ?_
  refine j_iload_n g (pc := 369) (i := 3) (by decide +kernel) rfl ?_
  refine j_iconst g (pc := 370) (n := 2) (2) (by decide +kernel) rfl ?_
  refine j_iadd g (pc := 371) (by decide +kernel) ?_
  refine j_sld gs (pc := 372) h2 (by decide +kernel) ?_
  refine j_aload_n g (pc := 373) (i := 0) (by decide +kernel) rfl ?_
  refine j_iload_n g (pc := 374) (i := 3) (by decide +kernel) rfl ?_
  refine j_iconst g (pc := 375) (n := 3) (3) (by decide +kernel) rfl ?_
  refine j_iadd g (pc := 376) (by decide +kernel) ?_
  refine j_sld gs (pc := 377) h3 (by decide +kernel) ?_
  refine j_aload_n g (pc := 378) (i := 0) (by decide +kernel) rfl ?_
  refine j_iload_n g (pc := 379) (i := 3) (by decide +kernel) rfl ?_
  refine j_iconst g (pc := 380) (n := 4) (4) (by decide +kernel) rfl ?_
  refine j_iadd g (pc := 381) (by decide +kernel) ?_
  refine j_sld gs (pc := 382) h4 (by decide +kernel) ?_
  refine j_aload_n g (pc := 383) (i := 0) (by decide +kernel) rfl ?_
  refine j_iload_n g (pc := 384) (i := 3) (by decide +kernel) rfl ?_
  refine j_iconst g (pc := 385) (n := 5) (5) (by decide +kernel) rfl ?_
  refine j_iadd g (pc := 386) (by decide +kernel) ?_
  refine j_sld gs (pc := 387) h5 (by decide +kernel) ?_
  refine j_aload_n g (pc := 388) (i := 0) (by decide +kernel) rfl ?_
  refine j_iload_n g (pc := 389) (i := 3) (by decide +kernel) rfl ?_
  refine j_bipush g (pc := 390) (n := 6) (6) (by decide +kernel) (by decide +kernel) ?_
  refine j_iadd g (pc := 392) (by decide +kernel) ?_
  refine j_sld gs (pc := 393) h6 (by decide +kernel) ?_
  refine j_cV6r g (pc := 394) v9_34 ⟨rfl, by decide⟩ (by decide +kernel) (by decide +kernel) (Nat.le_of_ble_eq_true rfl) ha ?_
  refine j_aload_n g (pc := 397) (i := 2) (by decide +kernel) rfl ?_
  refine j_aload_n g (pc := 398) (i := 0) (by decide +kernel) rfl ?_
  refine j_iload_n g (pc := 399) (i := 3) (by decide +kernel) rfl ?_
  refine j_iconst g (pc := 400) (n := 1) (1) (by decide +kernel) rfl ?_
  refine j_iadd g (pc := 401) (by decide +kernel) ?_
  refine j_sld gs (pc := 402) h1 (by decide +kernel) ?_
  refine j_aload_n g (pc := 403) (i := 0) (by decide +kernel) rfl ?_
  refine j_iload_n g (pc := 404) (i := 3) (by decide +kernel) rfl ?_
  refine j_iconst g (pc := 405) (n := 2) (2) (by decide +kernel) rfl ?_
  refine j_iadd g (pc := 406) (by decide +kernel) ?_
  refine j_sld gs (pc := 407) h2 (by decide +kernel) ?_
  refine j_aload_n g (pc := 408) (i := 0) (by decide +kernel) rfl ?_
  refine j_iload_n g (pc := 409) (i := 3) (by decide +kernel) rfl ?_
  refine j_iconst g (pc := 410) (n := 3) (3) (by decide +kernel) rfl ?_
  refine j_iadd g (pc := 411) (by decide +kernel) ?_
  refine j_sld gs (pc := 412) h3 (by decide +kernel) ?_
  refine j_aload_n g (pc := 413) (i := 0) (by decide +kernel) rfl ?_
  refine j_iload_n g (pc := 414) (i := 3) (by decide +kernel) rfl ?_
  refine j_iconst g (pc := 415) (n := 4) (4) (by decide +kernel) rfl ?_
  refine j_iadd g (pc := 416) (by decide +kernel) ?_
  refine j_sld gs (pc := 417) h4 (by decide +kernel) ?_
  refine j_aload_n g (pc := 418) (i := 0) (by decide +kernel) rfl ?_
  refine j_iload_n g (pc := 419) (i := 3) (by decide +kernel) rfl ?_
  refine j_iconst g (pc := 420) (n := 5) (5) (by decide +kernel) rfl ?_
  refine j_iadd g (pc := 421) (by decide +kernel) ?_
  refine j_sld gs (pc := 422) h5 (by decide +kernel) ?_
  refine j_aload_n g (pc := 423) (i := 0) (by decide +kernel) rfl ?_
  refine j_iload_n g (pc := 424) (i := 3) (by decide +kernel) rfl ?_
  refine j_bipush g (pc := 425) (n := 6) (6) (by decide +kernel) (by decide +kernel) ?_
  refine j_iadd g (pc := 427) (by decide +kernel) ?_
  refine j_sld gs (pc := 428) h6 (by decide +kernel) ?_
  refine j_cV6r g (pc := 429) v9_38 ⟨rfl, by decide⟩ (by decide +kernel) (by decide +kernel) (Nat.le_of_ble_eq_true rfl) hb ?_
  exact j_icmp_eq g (pc := 432) (off := 1051) (tgt := 1483) (by decide +kernel) (by decide) (fun _ => k) (fun h => absurd e h)
theorem lc_5 (gs : GoodS code 4 31 Ln xs J) {v w : Int32} (h1 : vp_in (i + 1) Ln) (h2 : vp_in (i + 2) Ln) (h3 : vp_in (i + 3) Ln) (ha : Rn 30 mX7_behind [.ref 1, .int (xs (Int32.toNatClampNeg (i + 1))), .int (xs (Int32.toNatClampNeg (i + 2))), .int (xs (Int32.toNatClampNeg (i + 3)))] M (some (.int v)) M1) (hb : Rn 30 mX8_behind [.ref 600, .int (xs (Int32.toNatClampNeg (i + 1))), .int (xs (Int32.toNatClampNeg (i + 2))), .int (xs (Int32.toNatClampNeg (i + 3)))] M1 (some (.int w)) M2) (e : v = w) (k : J 1483 [some (.ref 900), some (.ref 1), some (.ref 600), some (.int i)] [] M2) : J 437 [some (.ref 900), some (.ref 1), some (.ref 600), some (.int i)] [] M := by
  have g := gs.g
  refine j_aload_n g (pc := 437) (i := 1) (by decide +kernel) rfl ?_
  refine j_aload_n g (pc := 438) (i := 0) (by decide +kernel) rfl ?_
  refine j_iload_n g (pc := 439) (i := 3) (by decide +kernel) rfl ?_
  refine j_iconst g (pc := 440) (n := 1) (1) (by decide +kernel) rfl ?_
  refine j_iadd g (pc := 441) (by decide +kernel) ?_
  refine j_sld gs (pc := 442) h1 (by decide +kernel) ?_
  refine j_aload_n g (pc := 443) (i := 0) (by decide +kernel) rfl ?_
  refine j_iload_n g (pc := 444) (i := 3) (by decide +kernel) rfl ?_
  refine j_iconst g (pc := 445) (n := 2) (2) (by decide +kernel) rfl ?_
  refine j_iadd g (pc := 446) (by decide +kernel) ?_
  refine j_sld gs (pc := 447) h2 (by decide +kernel) ?_
  refine j_aload_n g (pc := 448) (i := 0) (by decide +kernel) rfl ?_
  refine j_iload_n g (pc := 449) (i := 3) (by decide +kernel) rfl ?_
  refine j_iconst g (pc := 450) (n := 3) (3) (by decide +kernel) rfl ?_
  refine j_iadd g (pc := 451) (by decide +kernel) ?_
  refine j_sld gs (pc := 452) h3 (by decide +kernel) ?_
  refine j_cV3r g (pc := 453) v9_39 ⟨rfl, by decide⟩ (by decide +kernel) (by decide +kernel) (Nat.le_of_ble_eq_true rfl) ha ?_
  refine j_aload_n g (pc := 456) (i := 2) (by decide +kernel) rfl ?_
  refine j_aload_n g (pc := 457) (i := 0) (by decide +kernel) rfl ?_
  refine j_iload_n g (pc := 458) (i := 3) (by decide +kernel) rfl ?_
  refine j_iconst g (pc := 459) (n := 1) (1) (by decide +kernel) rfl ?_
  refine j_iadd g (pc := 460) (by decide +kernel) ?_
  refine j_sld gs (pc := 461) h1 (by decide +kernel) ?_
  refine j_aload_n g (pc := 462) (i := 0) (by decide +kernel) rfl ?_
  refine j_iload_n g (pc := 463) (i := 3) (by decide +kernel) rfl ?_
  refine j_iconst g (pc := 464) (n := 2) (2) (by decide +kernel) rfl ?_
  refine j_iadd g (pc := 465) (by decide +kernel) ?_
  refine j_sld gs (pc := 466) h2 (by decide +kernel) ?_
  refine j_aload_n g (pc := 467) (i := 0) (by decide +kernel) rfl ?_
  refine j_iload_n g (pc := 468) (i := 3) (by decide +kernel) rfl ?_
  refine j_iconst g (pc := 469) (n := 3) (3) (by decide +kernel) rfl ?_
  refine j_iadd g (pc := 470) (by decide +kernel) ?_
  refine j_sld gs (pc := 471) h3 (by decide +kernel) ?_
  refine j_cV3r g (pc := 472) v9_43 ⟨rfl, by decide⟩ (by decide +kernel) (by decide +kernel) (Nat.le_of_ble_eq_true rfl) hb ?_
  exact j_icmp_eq g (pc := 475) (off := 1008) (tgt := 1483) (by decide +kernel) (by decide) (fun _ => k) (fun h => absurd e h)
theorem lc_6 (gs : GoodS code 4 31 Ln xs J) {v w : Int32} (h1 : vp_in (i + 1) Ln) (h2 : vp_in (i + 2) Ln) (ha : Rn 30 mX7_workOf [.ref 1, .int (xs (Int32.toNatClampNeg (i + 1))), .int (xs (Int32.toNatClampNeg (i + 2)))] M (some (.int v)) M1) (hb : Rn 30 mX8_workOf [.ref 600, .int (xs (Int32.toNatClampNeg (i + 1))), .int (xs (Int32.toNatClampNeg (i + 2)))] M1 (some (.int w)) M2) (e : v = w) (k : J 1483 [some (.ref 900), some (.ref 1), some (.ref 600), some (.int i)] [] M2) : J 480 [some (.ref 900), some (.ref 1), some (.ref 600), some (.int i)] [] M := by
  have g := gs.g
  refine j_aload_n g (pc := 480) (i := 1) (by decide +kernel) rfl ?_
  refine j_aload_n g (pc := 481) (i := 0) (by decide +kernel) rfl ?_
  refine j_iload_n g (pc := 482) (i := 3) (by decide +kernel) rfl ?_
  refine j_iconst g (pc := 483) (n := 1) (1) (by decide +kernel) rfl ?_
  refine j_iadd g (pc := 484) (by decide +kernel) ?_
  refine j_sld gs (pc := 485) h1 (by decide +kernel) ?_
  refine j_aload_n g (pc := 486) (i := 0) (by decide +kernel) rfl ?_
  refine j_iload_n g (pc := 487) (i := 3) (by decide +kernel) rfl ?_
  refine j_iconst g (pc := 488) (n := 2) (2) (by decide +kernel) rfl ?_
  refine j_iadd g (pc := 489) (by decide +kernel) ?_
  refine j_sld gs (pc := 490) h2 (by decide +kernel) ?_
  refine j_cV2r g (pc := 491) v9_44 ⟨rfl, by decide⟩ (by decide +kernel) (by decide +kernel) (Nat.le_of_ble_eq_true rfl) ha ?_
  refine j_aload_n g (pc := 494) (i := 2) (by decide +kernel) rfl ?_
  refine j_aload_n g (pc := 495) (i := 0) (by decide +kernel) rfl ?_
  refine j_iload_n g (pc := 496) (i := 3) (by decide +kernel) rfl ?_
  refine j_iconst g (pc := 497) (n := 1) (1) (by decide +kernel) rfl ?_
  refine j_iadd g (pc := 498) (by decide +kernel) ?_
  refine j_sld gs (pc := 499) h1 (by decide +kernel) ?_
  refine j_aload_n g (pc := 500) (i := 0) (by decide +kernel) rfl ?_
  refine j_iload_n g (pc := 501) (i := 3) (by decide +kernel) rfl ?_
  refine j_iconst g (pc := 502) (n := 2) (2) (by decide +kernel) rfl ?_
  refine j_iadd g (pc := 503) (by decide +kernel) ?_
  refine j_sld gs (pc := 504) h2 (by decide +kernel) ?_
  refine j_cV2r g (pc := 505) v9_47 ⟨rfl, by decide⟩ (by decide +kernel) (by decide +kernel) (Nat.le_of_ble_eq_true rfl) hb ?_
  exact j_icmp_eq g (pc := 508) (off := 975) (tgt := 1483) (by decide +kernel) (by decide) (fun _ => k) (fun h => absurd e h)
theorem lc_7 (gs : GoodS code 4 31 Ln xs J) {v w : Int32} (h1 : vp_in (i + 1) Ln) (h2 : vp_in (i + 2) Ln) (ha : Rn 30 mX7_at [.ref 1, .int (xs (Int32.toNatClampNeg (i + 1))), .int (xs (Int32.toNatClampNeg (i + 2)))] M (some (.int v)) M1) (hb : Rn 30 mX8_at [.ref 600, .int (xs (Int32.toNatClampNeg (i + 1))), .int (xs (Int32.toNatClampNeg (i + 2)))] M1 (some (.int w)) M2) (e : v = w) (k : J 1483 [some (.ref 900), some (.ref 1), some (.ref 600), some (.int i)] [] M2) : J 513 [some (.ref 900), some (.ref 1), some (.ref 600), some (.int i)] [] M := by
  have g := gs.g
  refine j_aload_n g (pc := 513) (i := 1) (by decide +kernel) rfl ?_
  refine j_aload_n g (pc := 514) (i := 0) (by decide +kernel) rfl ?_
  refine j_iload_n g (pc := 515) (i := 3) (by decide +kernel) rfl ?_
  refine j_iconst g (pc := 516) (n := 1) (1) (by decide +kernel) rfl ?_
  refine j_iadd g (pc := 517) (by decide +kernel) ?_
  refine j_sld gs (pc := 518) h1 (by decide +kernel) ?_
  refine j_aload_n g (pc := 519) (i := 0) (by decide +kernel) rfl ?_
  refine j_iload_n g (pc := 520) (i := 3) (by decide +kernel) rfl ?_
  refine j_iconst g (pc := 521) (n := 2) (2) (by decide +kernel) rfl ?_
  refine j_iadd g (pc := 522) (by decide +kernel) ?_
  refine j_sld gs (pc := 523) h2 (by decide +kernel) ?_
  refine j_cV2r g (pc := 524) v9_48 ⟨rfl, by decide⟩ (by decide +kernel) (by decide +kernel) (Nat.le_of_ble_eq_true rfl) ha ?_
  refine j_aload_n g (pc := 527) (i := 2) (by decide +kernel) rfl ?_
  refine j_aload_n g (pc := 528) (i := 0) (by decide +kernel) rfl ?_
  refine j_iload_n g (pc := 529) (i := 3) (by decide +kernel) rfl ?_
  refine j_iconst g (pc := 530) (n := 1) (1) (by decide +kernel) rfl ?_
  refine j_iadd g (pc := 531) (by decide +kernel) ?_
  refine j_sld gs (pc := 532) h1 (by decide +kernel) ?_
  refine j_aload_n g (pc := 533) (i := 0) (by decide +kernel) rfl ?_
  refine j_iload_n g (pc := 534) (i := 3) (by decide +kernel) rfl ?_
  refine j_iconst g (pc := 535) (n := 2) (2) (by decide +kernel) rfl ?_
  refine j_iadd g (pc := 536) (by decide +kernel) ?_
  refine j_sld gs (pc := 537) h2 (by decide +kernel) ?_
  refine j_cV2r g (pc := 538) v9_51 ⟨rfl, by decide⟩ (by decide +kernel) (by decide +kernel) (Nat.le_of_ble_eq_true rfl) hb ?_
  exact j_icmp_eq g (pc := 541) (off := 942) (tgt := 1483) (by decide +kernel) (by decide) (fun _ => k) (fun h => absurd e h)
theorem lc_8 (gs : GoodS code 4 31 Ln xs J) {v w : Int32} (h1 : vp_in (i + 1) Ln) (h2 : vp_in (i + 2) Ln) (h3 : vp_in (i + 3) Ln) (ha : Rn 30 mX7_put [.ref 1, .int (xs (Int32.toNatClampNeg (i + 1))), .int (xs (Int32.toNatClampNeg (i + 2))), .int (xs (Int32.toNatClampNeg (i + 3)))] M (some (.int v)) M1) (hb : Rn 30 mX8_put [.ref 600, .int (xs (Int32.toNatClampNeg (i + 1))), .int (xs (Int32.toNatClampNeg (i + 2))), .int (xs (Int32.toNatClampNeg (i + 3)))] M1 (some (.int w)) M2) (e : v = w) (k : J 1483 [some (.ref 900), some (.ref 1), some (.ref 600), some (.int i)] [] M2) : J 546 [some (.ref 900), some (.ref 1), some (.ref 600), some (.int i)] [] M := by
  have g := gs.g
  refine j_aload_n g (pc := 546) (i := 1) (by decide +kernel) rfl ?_
  refine j_aload_n g (pc := 547) (i := 0) (by decide +kernel) rfl ?_
  refine j_iload_n g (pc := 548) (i := 3) (by decide +kernel) rfl ?_
  refine j_iconst g (pc := 549) (n := 1) (1) (by decide +kernel) rfl ?_
  refine j_iadd g (pc := 550) (by decide +kernel) ?_
  refine j_sld gs (pc := 551) h1 (by decide +kernel) ?_
  refine j_aload_n g (pc := 552) (i := 0) (by decide +kernel) rfl ?_
  refine j_iload_n g (pc := 553) (i := 3) (by decide +kernel) rfl ?_
  refine j_iconst g (pc := 554) (n := 2) (2) (by decide +kernel) rfl ?_
  refine j_iadd g (pc := 555) (by decide +kernel) ?_
  refine j_sld gs (pc := 556) h2 (by decide +kernel) ?_
  refine j_aload_n g (pc := 557) (i := 0) (by decide +kernel) rfl ?_
  refine j_iload_n g (pc := 558) (i := 3) (by decide +kernel) rfl ?_
  refine j_iconst g (pc := 559) (n := 3) (3) (by decide +kernel) rfl ?_
  refine j_iadd g (pc := 560) (by decide +kernel) ?_
  refine j_sld gs (pc := 561) h3 (by decide +kernel) ?_
  refine j_cV3r g (pc := 562) v9_52 ⟨rfl, by decide⟩ (by decide +kernel) (by decide +kernel) (Nat.le_of_ble_eq_true rfl) ha ?_
  refine j_aload_n g (pc := 565) (i := 2) (by decide +kernel) rfl ?_
  refine j_aload_n g (pc := 566) (i := 0) (by decide +kernel) rfl ?_
  refine j_iload_n g (pc := 567) (i := 3) (by decide +kernel) rfl ?_
  refine j_iconst g (pc := 568) (n := 1) (1) (by decide +kernel) rfl ?_
  refine j_iadd g (pc := 569) (by decide +kernel) ?_
  refine j_sld gs (pc := 570) h1 (by decide +kernel) ?_
  refine j_aload_n g (pc := 571) (i := 0) (by decide +kernel) rfl ?_
  refine j_iload_n g (pc := 572) (i := 3) (by decide +kernel) rfl ?_
  refine j_iconst g (pc := 573) (n := 2) (2) (by decide +kernel) rfl ?_
  refine j_iadd g (pc := 574) (by decide +kernel) ?_
  refine j_sld gs (pc := 575) h2 (by decide +kernel) ?_
  refine j_aload_n g (pc := 576) (i := 0) (by decide +kernel) rfl ?_
  refine j_iload_n g (pc := 577) (i := 3) (by decide +kernel) rfl ?_
  refine j_iconst g (pc := 578) (n := 3) (3) (by decide +kernel) rfl ?_
  refine j_iadd g (pc := 579) (by decide +kernel) ?_
  refine j_sld gs (pc := 580) h3 (by decide +kernel) ?_
  refine j_cV3r g (pc := 581) v9_55 ⟨rfl, by decide⟩ (by decide +kernel) (by decide +kernel) (Nat.le_of_ble_eq_true rfl) hb ?_
  exact j_icmp_eq g (pc := 584) (off := 899) (tgt := 1483) (by decide +kernel) (by decide) (fun _ => k) (fun h => absurd e h)
theorem lc_9 (gs : GoodS code 4 31 Ln xs J) {v w : Int32} (h1 : vp_in (i + 1) Ln) (h2 : vp_in (i + 2) Ln) (ha : Rn 30 mX7_set [.ref 1, .int (xs (Int32.toNatClampNeg (i + 1))), .int (xs (Int32.toNatClampNeg (i + 2)))] M (some (.int v)) M1) (hb : Rn 30 mX8_set [.ref 600, .int (xs (Int32.toNatClampNeg (i + 1))), .int (xs (Int32.toNatClampNeg (i + 2)))] M1 (some (.int w)) M2) (e : v = w) (k : J 1483 [some (.ref 900), some (.ref 1), some (.ref 600), some (.int i)] [] M2) : J 589 [some (.ref 900), some (.ref 1), some (.ref 600), some (.int i)] [] M := by
  have g := gs.g
  refine j_aload_n g (pc := 589) (i := 1) (by decide +kernel) rfl ?_
  refine j_aload_n g (pc := 590) (i := 0) (by decide +kernel) rfl ?_
  refine j_iload_n g (pc := 591) (i := 3) (by decide +kernel) rfl ?_
  refine j_iconst g (pc := 592) (n := 1) (1) (by decide +kernel) rfl ?_
  refine j_iadd g (pc := 593) (by decide +kernel) ?_
  refine j_sld gs (pc := 594) h1 (by decide +kernel) ?_
  refine j_aload_n g (pc := 595) (i := 0) (by decide +kernel) rfl ?_
  refine j_iload_n g (pc := 596) (i := 3) (by decide +kernel) rfl ?_
  refine j_iconst g (pc := 597) (n := 2) (2) (by decide +kernel) rfl ?_
  refine j_iadd g (pc := 598) (by decide +kernel) ?_
  refine j_sld gs (pc := 599) h2 (by decide +kernel) ?_
  refine j_cV2r g (pc := 600) v9_56 ⟨rfl, by decide⟩ (by decide +kernel) (by decide +kernel) (Nat.le_of_ble_eq_true rfl) ha ?_
  refine j_aload_n g (pc := 603) (i := 2) (by decide +kernel) rfl ?_
  refine j_aload_n g (pc := 604) (i := 0) (by decide +kernel) rfl ?_
  refine j_iload_n g (pc := 605) (i := 3) (by decide +kernel) rfl ?_
  refine j_iconst g (pc := 606) (n := 1) (1) (by decide +kernel) rfl ?_
  refine j_iadd g (pc := 607) (by decide +kernel) ?_
  refine j_sld gs (pc := 608) h1 (by decide +kernel) ?_
  refine j_aload_n g (pc := 609) (i := 0) (by decide +kernel) rfl ?_
  refine j_iload_n g (pc := 610) (i := 3) (by decide +kernel) rfl ?_
  refine j_iconst g (pc := 611) (n := 2) (2) (by decide +kernel) rfl ?_
  refine j_iadd g (pc := 612) (by decide +kernel) ?_
  refine j_sld gs (pc := 613) h2 (by decide +kernel) ?_
  refine j_cV2r g (pc := 614) v9_59 ⟨rfl, by decide⟩ (by decide +kernel) (by decide +kernel) (Nat.le_of_ble_eq_true rfl) hb ?_
  exact j_icmp_eq g (pc := 617) (off := 866) (tgt := 1483) (by decide +kernel) (by decide) (fun _ => k) (fun h => absurd e h)
theorem lc_10 (gs : GoodS code 4 31 Ln xs J) {v w : Int32}  (ha : Rn 30 mX7_minute [.ref 1] M (some (.int v)) M1) (hb : Rn 30 mX8_minute [.ref 600] M1 (some (.int w)) M2) (e : v = w) (k : J 1483 [some (.ref 900), some (.ref 1), some (.ref 600), some (.int i)] [] M2) : J 622 [some (.ref 900), some (.ref 1), some (.ref 600), some (.int i)] [] M := by
  have g := gs.g
  refine j_aload_n g (pc := 622) (i := 1) (by decide +kernel) rfl ?_
  refine j_cV0r g (pc := 623) v9_60 ⟨rfl, by decide⟩ (by decide +kernel) (by decide +kernel) (Nat.le_of_ble_eq_true rfl) ha ?_
  refine j_aload_n g (pc := 626) (i := 2) (by decide +kernel) rfl ?_
  refine j_cV0r g (pc := 627) v9_63 ⟨rfl, by decide⟩ (by decide +kernel) (by decide +kernel) (Nat.le_of_ble_eq_true rfl) hb ?_
  exact j_icmp_eq g (pc := 630) (off := 853) (tgt := 1483) (by decide +kernel) (by decide) (fun _ => k) (fun h => absurd e h)
theorem lc_11 (gs : GoodS code 4 31 Ln xs J) {v w : Int32} (h1 : vp_in (i + 1) Ln) (ha : Rn 30 mX7_pass [.ref 1, .int (xs (Int32.toNatClampNeg (i + 1)))] M (some (.int v)) M1) (hb : Rn 30 mX8_pass [.ref 600, .int (xs (Int32.toNatClampNeg (i + 1)))] M1 (some (.int w)) M2) (e : v = w) (k : J 1483 [some (.ref 900), some (.ref 1), some (.ref 600), some (.int i)] [] M2) : J 635 [some (.ref 900), some (.ref 1), some (.ref 600), some (.int i)] [] M := by
  have g := gs.g
  refine j_aload_n g (pc := 635) (i := 1) (by decide +kernel) rfl ?_
  refine j_aload_n g (pc := 636) (i := 0) (by decide +kernel) rfl ?_
  refine j_iload_n g (pc := 637) (i := 3) (by decide +kernel) rfl ?_
  refine j_iconst g (pc := 638) (n := 1) (1) (by decide +kernel) rfl ?_
  refine j_iadd g (pc := 639) (by decide +kernel) ?_
  refine j_sld gs (pc := 640) h1 (by decide +kernel) ?_
  refine j_cV1r g (pc := 641) v9_64 ⟨rfl, by decide⟩ (by decide +kernel) (by decide +kernel) (Nat.le_of_ble_eq_true rfl) ha ?_
  refine j_aload_n g (pc := 644) (i := 2) (by decide +kernel) rfl ?_
  refine j_aload_n g (pc := 645) (i := 0) (by decide +kernel) rfl ?_
  refine j_iload_n g (pc := 646) (i := 3) (by decide +kernel) rfl ?_
  refine j_iconst g (pc := 647) (n := 1) (1) (by decide +kernel) rfl ?_
  refine j_iadd g (pc := 648) (by decide +kernel) ?_
  refine j_sld gs (pc := 649) h1 (by decide +kernel) ?_
  refine j_cV1r g (pc := 650) v9_68 ⟨rfl, by decide⟩ (by decide +kernel) (by decide +kernel) (Nat.le_of_ble_eq_true rfl) hb ?_
  exact j_icmp_eq g (pc := 653) (off := 830) (tgt := 1483) (by decide +kernel) (by decide) (fun _ => k) (fun h => absurd e h)
theorem lc_12 (gs : GoodS code 4 31 Ln xs J) {v w : Int32} (h1 : vp_in (i + 1) Ln) (ha : Rn 30 mX7_minutes [.ref 1, .int (xs (Int32.toNatClampNeg (i + 1)))] M (some (.int v)) M1) (hb : Rn 30 mX8_minutes [.ref 600, .int (xs (Int32.toNatClampNeg (i + 1)))] M1 (some (.int w)) M2) (e : v = w) (k : J 1483 [some (.ref 900), some (.ref 1), some (.ref 600), some (.int i)] [] M2) : J 658 [some (.ref 900), some (.ref 1), some (.ref 600), some (.int i)] [] M := by
  have g := gs.g
  refine j_aload_n g (pc := 658) (i := 1) (by decide +kernel) rfl ?_
  refine j_aload_n g (pc := 659) (i := 0) (by decide +kernel) rfl ?_
  refine j_iload_n g (pc := 660) (i := 3) (by decide +kernel) rfl ?_
  refine j_iconst g (pc := 661) (n := 1) (1) (by decide +kernel) rfl ?_
  refine j_iadd g (pc := 662) (by decide +kernel) ?_
  refine j_sld gs (pc := 663) h1 (by decide +kernel) ?_
  refine j_cV1r g (pc := 664) v9_69 ⟨rfl, by decide⟩ (by decide +kernel) (by decide +kernel) (Nat.le_of_ble_eq_true rfl) ha ?_
  refine j_aload_n g (pc := 667) (i := 2) (by decide +kernel) rfl ?_
  refine j_aload_n g (pc := 668) (i := 0) (by decide +kernel) rfl ?_
  refine j_iload_n g (pc := 669) (i := 3) (by decide +kernel) rfl ?_
  refine j_iconst g (pc := 670) (n := 1) (1) (by decide +kernel) rfl ?_
  refine j_iadd g (pc := 671) (by decide +kernel) ?_
  refine j_sld gs (pc := 672) h1 (by decide +kernel) ?_
  refine j_cV1r g (pc := 673) v9_72 ⟨rfl, by decide⟩ (by decide +kernel) (by decide +kernel) (Nat.le_of_ble_eq_true rfl) hb ?_
  exact j_icmp_eq g (pc := 676) (off := 807) (tgt := 1483) (by decide +kernel) (by decide) (fun _ => k) (fun h => absurd e h)
theorem lc_13 (gs : GoodS code 4 31 Ln xs J) {v w : Int32}  (ha : Rn 30 mX7_may [.ref 1] M (some (.int v)) M1) (hb : Rn 30 mX8_may [.ref 600] M1 (some (.int w)) M2) (e : v = w) (k : J 1483 [some (.ref 900), some (.ref 1), some (.ref 600), some (.int i)] [] M2) : J 681 [some (.ref 900), some (.ref 1), some (.ref 600), some (.int i)] [] M := by
  have g := gs.g
  refine j_aload_n g (pc := 681) (i := 1) (by decide +kernel) rfl ?_
  refine j_cV0r g (pc := 682) v9_73 ⟨rfl, by decide⟩ (by decide +kernel) (by decide +kernel) (Nat.le_of_ble_eq_true rfl) ha ?_
  refine j_aload_n g (pc := 685) (i := 2) (by decide +kernel) rfl ?_
  refine j_cV0r g (pc := 686) v9_76 ⟨rfl, by decide⟩ (by decide +kernel) (by decide +kernel) (Nat.le_of_ble_eq_true rfl) hb ?_
  exact j_icmp_eq g (pc := 689) (off := 794) (tgt := 1483) (by decide +kernel) (by decide) (fun _ => k) (fun h => absurd e h)
theorem lc_14 (gs : GoodS code 4 31 Ln xs J) {v w : Int32} (h1 : vp_in (i + 1) Ln) (ha : Rn 30 mX7_does [.ref 1, .int (xs (Int32.toNatClampNeg (i + 1)))] M (some (.int v)) M1) (hb : Rn 30 mX8_does [.ref 600, .int (xs (Int32.toNatClampNeg (i + 1)))] M1 (some (.int w)) M2) (e : v = w) (k : J 1483 [some (.ref 900), some (.ref 1), some (.ref 600), some (.int i)] [] M2) : J 694 [some (.ref 900), some (.ref 1), some (.ref 600), some (.int i)] [] M := by
  have g := gs.g
  refine j_aload_n g (pc := 694) (i := 1) (by decide +kernel) rfl ?_
  refine j_aload_n g (pc := 695) (i := 0) (by decide +kernel) rfl ?_
  refine j_iload_n g (pc := 696) (i := 3) (by decide +kernel) rfl ?_
  refine j_iconst g (pc := 697) (n := 1) (1) (by decide +kernel) rfl ?_
  refine j_iadd g (pc := 698) (by decide +kernel) ?_
  refine j_sld gs (pc := 699) h1 (by decide +kernel) ?_
  refine j_cV1r g (pc := 700) v9_77 ⟨rfl, by decide⟩ (by decide +kernel) (by decide +kernel) (Nat.le_of_ble_eq_true rfl) ha ?_
  refine j_aload_n g (pc := 703) (i := 2) (by decide +kernel) rfl ?_
  refine j_aload_n g (pc := 704) (i := 0) (by decide +kernel) rfl ?_
  refine j_iload_n g (pc := 705) (i := 3) (by decide +kernel) rfl ?_
  refine j_iconst g (pc := 706) (n := 1) (1) (by decide +kernel) rfl ?_
  refine j_iadd g (pc := 707) (by decide +kernel) ?_
  refine j_sld gs (pc := 708) h1 (by decide +kernel) ?_
  refine j_cV1r g (pc := 709) v9_80 ⟨rfl, by decide⟩ (by decide +kernel) (by decide +kernel) (Nat.le_of_ble_eq_true rfl) hb ?_
  exact j_icmp_eq g (pc := 712) (off := 771) (tgt := 1483) (by decide +kernel) (by decide) (fun _ => k) (fun h => absurd e h)
theorem lc_15 (gs : GoodS code 4 31 Ln xs J) {v w : Int32}  (ha : Rn 30 mX7_had [.ref 1] M (some (.int v)) M1) (hb : Rn 30 mX8_had [.ref 600] M1 (some (.int w)) M2) (e : v = w) (k : J 1483 [some (.ref 900), some (.ref 1), some (.ref 600), some (.int i)] [] M2) : J 717 [some (.ref 900), some (.ref 1), some (.ref 600), some (.int i)] [] M := by
  have g := gs.g
  refine j_aload_n g (pc := 717) (i := 1) (by decide +kernel) rfl ?_
  refine j_cV0r g (pc := 718) v9_81 ⟨rfl, by decide⟩ (by decide +kernel) (by decide +kernel) (Nat.le_of_ble_eq_true rfl) ha ?_
  refine j_aload_n g (pc := 721) (i := 2) (by decide +kernel) rfl ?_
  refine j_cV0r g (pc := 722) v9_84 ⟨rfl, by decide⟩ (by decide +kernel) (by decide +kernel) (Nat.le_of_ble_eq_true rfl) hb ?_
  exact j_icmp_eq g (pc := 725) (off := 758) (tgt := 1483) (by decide +kernel) (by decide) (fun _ => k) (fun h => absurd e h)
theorem lc_16 (gs : GoodS code 4 31 Ln xs J) {v w : Int32} (h1 : vp_in (i + 1) Ln) (ha : Rn 30 mX7_worth [.ref 1, .int (xs (Int32.toNatClampNeg (i + 1)))] M (some (.int v)) M1) (hb : Rn 30 mX8_worth [.ref 600, .int (xs (Int32.toNatClampNeg (i + 1)))] M1 (some (.int w)) M2) (e : v = w) (k : J 1483 [some (.ref 900), some (.ref 1), some (.ref 600), some (.int i)] [] M2) : J 730 [some (.ref 900), some (.ref 1), some (.ref 600), some (.int i)] [] M := by
  have g := gs.g
  refine j_aload_n g (pc := 730) (i := 1) (by decide +kernel) rfl ?_
  refine j_aload_n g (pc := 731) (i := 0) (by decide +kernel) rfl ?_
  refine j_iload_n g (pc := 732) (i := 3) (by decide +kernel) rfl ?_
  refine j_iconst g (pc := 733) (n := 1) (1) (by decide +kernel) rfl ?_
  refine j_iadd g (pc := 734) (by decide +kernel) ?_
  refine j_sld gs (pc := 735) h1 (by decide +kernel) ?_
  refine j_cV1r g (pc := 736) v9_85 ⟨rfl, by decide⟩ (by decide +kernel) (by decide +kernel) (Nat.le_of_ble_eq_true rfl) ha ?_
  refine j_aload_n g (pc := 739) (i := 2) (by decide +kernel) rfl ?_
  refine j_aload_n g (pc := 740) (i := 0) (by decide +kernel) rfl ?_
  refine j_iload_n g (pc := 741) (i := 3) (by decide +kernel) rfl ?_
  refine j_iconst g (pc := 742) (n := 1) (1) (by decide +kernel) rfl ?_
  refine j_iadd g (pc := 743) (by decide +kernel) ?_
  refine j_sld gs (pc := 744) h1 (by decide +kernel) ?_
  refine j_cV1r g (pc := 745) v9_88 ⟨rfl, by decide⟩ (by decide +kernel) (by decide +kernel) (Nat.le_of_ble_eq_true rfl) hb ?_
  exact j_icmp_eq g (pc := 748) (off := 735) (tgt := 1483) (by decide +kernel) (by decide) (fun _ => k) (fun h => absurd e h)
theorem lc_17 (gs : GoodS code 4 31 Ln xs J) {v w : Int32} (h1 : vp_in (i + 1) Ln) (h2 : vp_in (i + 2) Ln) (ha : Rn 30 mX7_ends [.ref 1, .int (xs (Int32.toNatClampNeg (i + 1))), .int (xs (Int32.toNatClampNeg (i + 2)))] M (some (.int v)) M1) (hb : Rn 30 mX8_ends [.ref 600, .int (xs (Int32.toNatClampNeg (i + 1))), .int (xs (Int32.toNatClampNeg (i + 2)))] M1 (some (.int w)) M2) (e : v = w) (k : J 1483 [some (.ref 900), some (.ref 1), some (.ref 600), some (.int i)] [] M2) : J 753 [some (.ref 900), some (.ref 1), some (.ref 600), some (.int i)] [] M := by
  have g := gs.g
  refine j_aload_n g (pc := 753) (i := 1) (by decide +kernel) rfl ?_
  refine j_aload_n g (pc := 754) (i := 0) (by decide +kernel) rfl ?_
  refine j_iload_n g (pc := 755) (i := 3) (by decide +kernel) rfl ?_
  refine j_iconst g (pc := 756) (n := 1) (1) (by decide +kernel) rfl ?_
  refine j_iadd g (pc := 757) (by decide +kernel) ?_
  refine j_sld gs (pc := 758) h1 (by decide +kernel) ?_
  refine j_aload_n g (pc := 759) (i := 0) (by decide +kernel) rfl ?_
  refine j_iload_n g (pc := 760) (i := 3) (by decide +kernel) rfl ?_
  refine j_iconst g (pc := 761) (n := 2) (2) (by decide +kernel) rfl ?_
  refine j_iadd g (pc := 762) (by decide +kernel) ?_
  refine j_sld gs (pc := 763) h2 (by decide +kernel) ?_
  refine j_cV2r g (pc := 764) v9_89 ⟨rfl, by decide⟩ (by decide +kernel) (by decide +kernel) (Nat.le_of_ble_eq_true rfl) ha ?_
  refine j_aload_n g (pc := 767) (i := 2) (by decide +kernel) rfl ?_
  refine j_aload_n g (pc := 768) (i := 0) (by decide +kernel) rfl ?_
  refine j_iload_n g (pc := 769) (i := 3) (by decide +kernel) rfl ?_
  refine j_iconst g (pc := 770) (n := 1) (1) (by decide +kernel) rfl ?_
  refine j_iadd g (pc := 771) (by decide +kernel) ?_
  refine j_sld gs (pc := 772) h1 (by decide +kernel) ?_
  refine j_aload_n g (pc := 773) (i := 0) (by decide +kernel) rfl ?_
  refine j_iload_n g (pc := 774) (i := 3) (by decide +kernel) rfl ?_
  refine j_iconst g (pc := 775) (n := 2) (2) (by decide +kernel) rfl ?_
  refine j_iadd g (pc := 776) (by decide +kernel) ?_
  refine j_sld gs (pc := 777) h2 (by decide +kernel) ?_
  refine j_cV2r g (pc := 778) v9_92 ⟨rfl, by decide⟩ (by decide +kernel) (by decide +kernel) (Nat.le_of_ble_eq_true rfl) hb ?_
  exact j_icmp_eq g (pc := 781) (off := 702) (tgt := 1483) (by decide +kernel) (by decide) (fun _ => k) (fun h => absurd e h)
theorem lc_18 (gs : GoodS code 4 31 Ln xs J) {v w : Int32} (h1 : vp_in (i + 1) Ln) (ha : Rn 30 mX7_best [.ref 1, .int (xs (Int32.toNatClampNeg (i + 1)))] M (some (.int v)) M1) (hb : Rn 30 mX8_best [.ref 600, .int (xs (Int32.toNatClampNeg (i + 1)))] M1 (some (.int w)) M2) (e : v = w) (k : J 1483 [some (.ref 900), some (.ref 1), some (.ref 600), some (.int i)] [] M2) : J 786 [some (.ref 900), some (.ref 1), some (.ref 600), some (.int i)] [] M := by
  have g := gs.g
  refine j_aload_n g (pc := 786) (i := 1) (by decide +kernel) rfl ?_
  refine j_aload_n g (pc := 787) (i := 0) (by decide +kernel) rfl ?_
  refine j_iload_n g (pc := 788) (i := 3) (by decide +kernel) rfl ?_
  refine j_iconst g (pc := 789) (n := 1) (1) (by decide +kernel) rfl ?_
  refine j_iadd g (pc := 790) (by decide +kernel) ?_
  refine j_sld gs (pc := 791) h1 (by decide +kernel) ?_
  refine j_cV1r g (pc := 792) v9_93 ⟨rfl, by decide⟩ (by decide +kernel) (by decide +kernel) (Nat.le_of_ble_eq_true rfl) ha ?_
  refine j_aload_n g (pc := 795) (i := 2) (by decide +kernel) rfl ?_
  refine j_aload_n g (pc := 796) (i := 0) (by decide +kernel) rfl ?_
  refine j_iload_n g (pc := 797) (i := 3) (by decide +kernel) rfl ?_
  refine j_iconst g (pc := 798) (n := 1) (1) (by decide +kernel) rfl ?_
  refine j_iadd g (pc := 799) (by decide +kernel) ?_
  refine j_sld gs (pc := 800) h1 (by decide +kernel) ?_
  refine j_cV1r g (pc := 801) v9_96 ⟨rfl, by decide⟩ (by decide +kernel) (by decide +kernel) (Nat.le_of_ble_eq_true rfl) hb ?_
  exact j_icmp_eq g (pc := 804) (off := 679) (tgt := 1483) (by decide +kernel) (by decide) (fun _ => k) (fun h => absurd e h)
theorem lc_19 (gs : GoodS code 4 31 Ln xs J) {v w : Int32}  (ha : Rn 30 mX7_fewest [.ref 1] M (some (.int v)) M1) (hb : Rn 30 mX8_fewest [.ref 600] M1 (some (.int w)) M2) (e : v = w) (k : J 1483 [some (.ref 900), some (.ref 1), some (.ref 600), some (.int i)] [] M2) : J 809 [some (.ref 900), some (.ref 1), some (.ref 600), some (.int i)] [] M := by
  have g := gs.g
  refine j_aload_n g (pc := 809) (i := 1) (by decide +kernel) rfl ?_
  refine j_cV0r g (pc := 810) v9_97 ⟨rfl, by decide⟩ (by decide +kernel) (by decide +kernel) (Nat.le_of_ble_eq_true rfl) ha ?_
  refine j_aload_n g (pc := 813) (i := 2) (by decide +kernel) rfl ?_
  refine j_cV0r g (pc := 814) v9_100 ⟨rfl, by decide⟩ (by decide +kernel) (by decide +kernel) (Nat.le_of_ble_eq_true rfl) hb ?_
  exact j_icmp_eq g (pc := 817) (off := 666) (tgt := 1483) (by decide +kernel) (by decide) (fun _ => k) (fun h => absurd e h)
theorem lc_20 (gs : GoodS code 4 31 Ln xs J) {v w : Int32}  (ha : Rn 30 mX7_shortest [.ref 1] M (some (.int v)) M1) (hb : Rn 30 mX8_shortest [.ref 600] M1 (some (.int w)) M2) (e : v = w) (k : J 1483 [some (.ref 900), some (.ref 1), some (.ref 600), some (.int i)] [] M2) : J 822 [some (.ref 900), some (.ref 1), some (.ref 600), some (.int i)] [] M := by
  have g := gs.g
  refine j_aload_n g (pc := 822) (i := 1) (by decide +kernel) rfl ?_
  refine j_cV0r g (pc := 823) v9_101 ⟨rfl, by decide⟩ (by decide +kernel) (by decide +kernel) (Nat.le_of_ble_eq_true rfl) ha ?_
  refine j_aload_n g (pc := 826) (i := 2) (by decide +kernel) rfl ?_
  refine j_cV0r g (pc := 827) v9_104 ⟨rfl, by decide⟩ (by decide +kernel) (by decide +kernel) (Nat.le_of_ble_eq_true rfl) hb ?_
  exact j_icmp_eq g (pc := 830) (off := 653) (tgt := 1483) (by decide +kernel) (by decide) (fun _ => k) (fun h => absurd e h)
theorem lc_21 (gs : GoodS code 4 31 Ln xs J) {v w : Int64} (h1 : vp_in (i + 1) Ln) (h2 : vp_in (i + 2) Ln) (ha : Rn 30 mX7_mean [.ref 1, .int (xs (Int32.toNatClampNeg (i + 1))), .int (xs (Int32.toNatClampNeg (i + 2)))] M (some (.long v)) M1) (hb : Rn 30 mX8_mean [.ref 600, .int (xs (Int32.toNatClampNeg (i + 1))), .int (xs (Int32.toNatClampNeg (i + 2)))] M1 (some (.long w)) M2) (e : v = w) (k : J 1483 [some (.ref 900), some (.ref 1), some (.ref 600), some (.int i)] [] M2) : J 835 [some (.ref 900), some (.ref 1), some (.ref 600), some (.int i)] [] M := by
  have g := gs.g
  refine j_aload_n g (pc := 835) (i := 1) (by decide +kernel) rfl ?_
  refine j_aload_n g (pc := 836) (i := 0) (by decide +kernel) rfl ?_
  refine j_iload_n g (pc := 837) (i := 3) (by decide +kernel) rfl ?_
  refine j_iconst g (pc := 838) (n := 1) (1) (by decide +kernel) rfl ?_
  refine j_iadd g (pc := 839) (by decide +kernel) ?_
  refine j_sld gs (pc := 840) h1 (by decide +kernel) ?_
  refine j_aload_n g (pc := 841) (i := 0) (by decide +kernel) rfl ?_
  refine j_iload_n g (pc := 842) (i := 3) (by decide +kernel) rfl ?_
  refine j_iconst g (pc := 843) (n := 2) (2) (by decide +kernel) rfl ?_
  refine j_iadd g (pc := 844) (by decide +kernel) ?_
  refine j_sld gs (pc := 845) h2 (by decide +kernel) ?_
  refine j_cV2r g (pc := 846) v9_105 ⟨rfl, by decide⟩ (by decide +kernel) (by decide +kernel) (Nat.le_of_ble_eq_true rfl) ha ?_
  refine j_aload_n g (pc := 849) (i := 2) (by decide +kernel) rfl ?_
  refine j_aload_n g (pc := 850) (i := 0) (by decide +kernel) rfl ?_
  refine j_iload_n g (pc := 851) (i := 3) (by decide +kernel) rfl ?_
  refine j_iconst g (pc := 852) (n := 1) (1) (by decide +kernel) rfl ?_
  refine j_iadd g (pc := 853) (by decide +kernel) ?_
  refine j_sld gs (pc := 854) h1 (by decide +kernel) ?_
  refine j_aload_n g (pc := 855) (i := 0) (by decide +kernel) rfl ?_
  refine j_iload_n g (pc := 856) (i := 3) (by decide +kernel) rfl ?_
  refine j_iconst g (pc := 857) (n := 2) (2) (by decide +kernel) rfl ?_
  refine j_iadd g (pc := 858) (by decide +kernel) ?_
  refine j_sld gs (pc := 859) h2 (by decide +kernel) ?_
  refine j_cV2r g (pc := 860) v9_109 ⟨rfl, by decide⟩ (by decide +kernel) (by decide +kernel) (Nat.le_of_ble_eq_true rfl) hb ?_
  refine j_lcmp g (pc := 863) (by decide +kernel) ?_
  exact j_if_eq g (pc := 864) (off := 619) (tgt := 1483) (by decide +kernel) (by decide) (fun _ => k) (fun h => absurd ((lg_cmp_eq _ _).mpr e) h)
theorem lc_22 (gs : GoodS code 4 31 Ln xs J) {v w : Int64} (h1 : vp_in (i + 1) Ln) (h2 : vp_in (i + 2) Ln) (ha : Rn 30 mX7_sure [.ref 1, .int (xs (Int32.toNatClampNeg (i + 1))), .int (xs (Int32.toNatClampNeg (i + 2)))] M (some (.long v)) M1) (hb : Rn 30 mX8_sure [.ref 600, .int (xs (Int32.toNatClampNeg (i + 1))), .int (xs (Int32.toNatClampNeg (i + 2)))] M1 (some (.long w)) M2) (e : v = w) (k : J 1483 [some (.ref 900), some (.ref 1), some (.ref 600), some (.int i)] [] M2) : J 869 [some (.ref 900), some (.ref 1), some (.ref 600), some (.int i)] [] M := by
  have g := gs.g
  refine j_aload_n g (pc := 869) (i := 1) (by decide +kernel) rfl ?_
  refine j_aload_n g (pc := 870) (i := 0) (by decide +kernel) rfl ?_
  refine j_iload_n g (pc := 871) (i := 3) (by decide +kernel) rfl ?_
  refine j_iconst g (pc := 872) (n := 1) (1) (by decide +kernel) rfl ?_
  refine j_iadd g (pc := 873) (by decide +kernel) ?_
  refine j_sld gs (pc := 874) h1 (by decide +kernel) ?_
  refine j_aload_n g (pc := 875) (i := 0) (by decide +kernel) rfl ?_
  refine j_iload_n g (pc := 876) (i := 3) (by decide +kernel) rfl ?_
  refine j_iconst g (pc := 877) (n := 2) (2) (by decide +kernel) rfl ?_
  refine j_iadd g (pc := 878) (by decide +kernel) ?_
  refine j_sld gs (pc := 879) h2 (by decide +kernel) ?_
  refine j_cV2r g (pc := 880) v9_110 ⟨rfl, by decide⟩ (by decide +kernel) (by decide +kernel) (Nat.le_of_ble_eq_true rfl) ha ?_
  refine j_aload_n g (pc := 883) (i := 2) (by decide +kernel) rfl ?_
  refine j_aload_n g (pc := 884) (i := 0) (by decide +kernel) rfl ?_
  refine j_iload_n g (pc := 885) (i := 3) (by decide +kernel) rfl ?_
  refine j_iconst g (pc := 886) (n := 1) (1) (by decide +kernel) rfl ?_
  refine j_iadd g (pc := 887) (by decide +kernel) ?_
  refine j_sld gs (pc := 888) h1 (by decide +kernel) ?_
  refine j_aload_n g (pc := 889) (i := 0) (by decide +kernel) rfl ?_
  refine j_iload_n g (pc := 890) (i := 3) (by decide +kernel) rfl ?_
  refine j_iconst g (pc := 891) (n := 2) (2) (by decide +kernel) rfl ?_
  refine j_iadd g (pc := 892) (by decide +kernel) ?_
  refine j_sld gs (pc := 893) h2 (by decide +kernel) ?_
  refine j_cV2r g (pc := 894) v9_113 ⟨rfl, by decide⟩ (by decide +kernel) (by decide +kernel) (Nat.le_of_ble_eq_true rfl) hb ?_
  refine j_lcmp g (pc := 897) (by decide +kernel) ?_
  exact j_if_eq g (pc := 898) (off := 585) (tgt := 1483) (by decide +kernel) (by decide) (fun _ => k) (fun h => absurd ((lg_cmp_eq _ _).mpr e) h)
theorem lc_23 (gs : GoodS code 4 31 Ln xs J) {v w : Int32} (h1 : vp_in (i + 1) Ln) (ha : Rn 30 mX7_bell [.ref 1, .int (xs (Int32.toNatClampNeg (i + 1)))] M (some (.int v)) M1) (hb : Rn 30 mX8_bell [.ref 600, .int (xs (Int32.toNatClampNeg (i + 1)))] M1 (some (.int w)) M2) (e : v = w) (k : J 1483 [some (.ref 900), some (.ref 1), some (.ref 600), some (.int i)] [] M2) : J 903 [some (.ref 900), some (.ref 1), some (.ref 600), some (.int i)] [] M := by
  have g := gs.g
  refine j_aload_n g (pc := 903) (i := 1) (by decide +kernel) rfl ?_
  refine j_aload_n g (pc := 904) (i := 0) (by decide +kernel) rfl ?_
  refine j_iload_n g (pc := 905) (i := 3) (by decide +kernel) rfl ?_
  refine j_iconst g (pc := 906) (n := 1) (1) (by decide +kernel) rfl ?_
  refine j_iadd g (pc := 907) (by decide +kernel) ?_
  refine j_sld gs (pc := 908) h1 (by decide +kernel) ?_
  refine j_cV1r g (pc := 909) v9_114 ⟨rfl, by decide⟩ (by decide +kernel) (by decide +kernel) (Nat.le_of_ble_eq_true rfl) ha ?_
  refine j_aload_n g (pc := 912) (i := 2) (by decide +kernel) rfl ?_
  refine j_aload_n g (pc := 913) (i := 0) (by decide +kernel) rfl ?_
  refine j_iload_n g (pc := 914) (i := 3) (by decide +kernel) rfl ?_
  refine j_iconst g (pc := 915) (n := 1) (1) (by decide +kernel) rfl ?_
  refine j_iadd g (pc := 916) (by decide +kernel) ?_
  refine j_sld gs (pc := 917) h1 (by decide +kernel) ?_
  refine j_cV1r g (pc := 918) v9_117 ⟨rfl, by decide⟩ (by decide +kernel) (by decide +kernel) (Nat.le_of_ble_eq_true rfl) hb ?_
  exact j_icmp_eq g (pc := 921) (off := 562) (tgt := 1483) (by decide +kernel) (by decide) (fun _ => k) (fun h => absurd e h)
theorem lc_24 (gs : GoodS code 4 31 Ln xs J) {v w : Int32} (h1 : vp_in (i + 1) Ln) (h2 : vp_in (i + 2) Ln) (ha : Rn 30 mX7_rule [.ref 1, .int (xs (Int32.toNatClampNeg (i + 1))), .int (xs (Int32.toNatClampNeg (i + 2)))] M (some (.int v)) M1) (hb : Rn 30 mX8_rule [.ref 600, .int (xs (Int32.toNatClampNeg (i + 1))), .int (xs (Int32.toNatClampNeg (i + 2)))] M1 (some (.int w)) M2) (e : v = w) (k : J 1483 [some (.ref 900), some (.ref 1), some (.ref 600), some (.int i)] [] M2) : J 926 [some (.ref 900), some (.ref 1), some (.ref 600), some (.int i)] [] M := by
  have g := gs.g
  refine j_aload_n g (pc := 926) (i := 1) (by decide +kernel) rfl ?_
  refine j_aload_n g (pc := 927) (i := 0) (by decide +kernel) rfl ?_
  refine j_iload_n g (pc := 928) (i := 3) (by decide +kernel) rfl ?_
  refine j_iconst g (pc := 929) (n := 1) (1) (by decide +kernel) rfl ?_
  refine j_iadd g (pc := 930) (by decide +kernel) ?_
  refine j_sld gs (pc := 931) h1 (by decide +kernel) ?_
  refine j_aload_n g (pc := 932) (i := 0) (by decide +kernel) rfl ?_
  refine j_iload_n g (pc := 933) (i := 3) (by decide +kernel) rfl ?_
  refine j_iconst g (pc := 934) (n := 2) (2) (by decide +kernel) rfl ?_
  refine j_iadd g (pc := 935) (by decide +kernel) ?_
  refine j_sld gs (pc := 936) h2 (by decide +kernel) ?_
  refine j_cV2r g (pc := 937) v9_118 ⟨rfl, by decide⟩ (by decide +kernel) (by decide +kernel) (Nat.le_of_ble_eq_true rfl) ha ?_
  refine j_aload_n g (pc := 940) (i := 2) (by decide +kernel) rfl ?_
  refine j_aload_n g (pc := 941) (i := 0) (by decide +kernel) rfl ?_
  refine j_iload_n g (pc := 942) (i := 3) (by decide +kernel) rfl ?_
  refine j_iconst g (pc := 943) (n := 1) (1) (by decide +kernel) rfl ?_
  refine j_iadd g (pc := 944) (by decide +kernel) ?_
  refine j_sld gs (pc := 945) h1 (by decide +kernel) ?_
  refine j_aload_n g (pc := 946) (i := 0) (by decide +kernel) rfl ?_
  refine j_iload_n g (pc := 947) (i := 3) (by decide +kernel) rfl ?_
  refine j_iconst g (pc := 948) (n := 2) (2) (by decide +kernel) rfl ?_
  refine j_iadd g (pc := 949) (by decide +kernel) ?_
  refine j_sld gs (pc := 950) h2 (by decide +kernel) ?_
  refine j_cV2r g (pc := 951) v9_121 ⟨rfl, by decide⟩ (by decide +kernel) (by decide +kernel) (Nat.le_of_ble_eq_true rfl) hb ?_
  exact j_icmp_eq g (pc := 954) (off := 529) (tgt := 1483) (by decide +kernel) (by decide) (fun _ => k) (fun h => absurd e h)
theorem lc_25 (gs : GoodS code 4 31 Ln xs J) {v w : Int32} (h1 : vp_in (i + 1) Ln) (h2 : vp_in (i + 2) Ln) (ha : Rn 30 mX7_ruleOf [.ref 1, .int (xs (Int32.toNatClampNeg (i + 1))), .int (xs (Int32.toNatClampNeg (i + 2)))] M (some (.int v)) M1) (hb : Rn 30 mX8_ruleOf [.ref 600, .int (xs (Int32.toNatClampNeg (i + 1))), .int (xs (Int32.toNatClampNeg (i + 2)))] M1 (some (.int w)) M2) (e : v = w) (k : J 1483 [some (.ref 900), some (.ref 1), some (.ref 600), some (.int i)] [] M2) : J 959 [some (.ref 900), some (.ref 1), some (.ref 600), some (.int i)] [] M := by
  have g := gs.g
  refine j_aload_n g (pc := 959) (i := 1) (by decide +kernel) rfl ?_
  refine j_aload_n g (pc := 960) (i := 0) (by decide +kernel) rfl ?_
  refine j_iload_n g (pc := 961) (i := 3) (by decide +kernel) rfl ?_
  refine j_iconst g (pc := 962) (n := 1) (1) (by decide +kernel) rfl ?_
  refine j_iadd g (pc := 963) (by decide +kernel) ?_
  refine j_sld gs (pc := 964) h1 (by decide +kernel) ?_
  refine j_aload_n g (pc := 965) (i := 0) (by decide +kernel) rfl ?_
  refine j_iload_n g (pc := 966) (i := 3) (by decide +kernel) rfl ?_
  refine j_iconst g (pc := 967) (n := 2) (2) (by decide +kernel) rfl ?_
  refine j_iadd g (pc := 968) (by decide +kernel) ?_
  refine j_sld gs (pc := 969) h2 (by decide +kernel) ?_
  refine j_cV2r g (pc := 970) v9_122 ⟨rfl, by decide⟩ (by decide +kernel) (by decide +kernel) (Nat.le_of_ble_eq_true rfl) ha ?_
  refine j_aload_n g (pc := 973) (i := 2) (by decide +kernel) rfl ?_
  refine j_aload_n g (pc := 974) (i := 0) (by decide +kernel) rfl ?_
  refine j_iload_n g (pc := 975) (i := 3) (by decide +kernel) rfl ?_
  refine j_iconst g (pc := 976) (n := 1) (1) (by decide +kernel) rfl ?_
  refine j_iadd g (pc := 977) (by decide +kernel) ?_
  refine j_sld gs (pc := 978) h1 (by decide +kernel) ?_
  refine j_aload_n g (pc := 979) (i := 0) (by decide +kernel) rfl ?_
  refine j_iload_n g (pc := 980) (i := 3) (by decide +kernel) rfl ?_
  refine j_iconst g (pc := 981) (n := 2) (2) (by decide +kernel) rfl ?_
  refine j_iadd g (pc := 982) (by decide +kernel) ?_
  refine j_sld gs (pc := 983) h2 (by decide +kernel) ?_
  refine j_cV2r g (pc := 984) v9_125 ⟨rfl, by decide⟩ (by decide +kernel) (by decide +kernel) (Nat.le_of_ble_eq_true rfl) hb ?_
  exact j_icmp_eq g (pc := 987) (off := 496) (tgt := 1483) (by decide +kernel) (by decide) (fun _ => k) (fun h => absurd e h)
theorem lc_26 (gs : GoodS code 4 31 Ln xs J) {v w : Int32} (h1 : vp_in (i + 1) Ln) (ha : Rn 30 mX7_takes [.ref 1, .int (xs (Int32.toNatClampNeg (i + 1)))] M (some (.int v)) M1) (hb : Rn 30 mX8_takes [.ref 600, .int (xs (Int32.toNatClampNeg (i + 1)))] M1 (some (.int w)) M2) (e : v = w) (k : J 1483 [some (.ref 900), some (.ref 1), some (.ref 600), some (.int i)] [] M2) : J 992 [some (.ref 900), some (.ref 1), some (.ref 600), some (.int i)] [] M := by
  have g := gs.g
  refine j_aload_n g (pc := 992) (i := 1) (by decide +kernel) rfl ?_
  refine j_aload_n g (pc := 993) (i := 0) (by decide +kernel) rfl ?_
  refine j_iload_n g (pc := 994) (i := 3) (by decide +kernel) rfl ?_
  refine j_iconst g (pc := 995) (n := 1) (1) (by decide +kernel) rfl ?_
  refine j_iadd g (pc := 996) (by decide +kernel) ?_
  refine j_sld gs (pc := 997) h1 (by decide +kernel) ?_
  refine j_cV1r g (pc := 998) v9_126 ⟨rfl, by decide⟩ (by decide +kernel) (by decide +kernel) (Nat.le_of_ble_eq_true rfl) ha ?_
  refine j_aload_n g (pc := 1001) (i := 2) (by decide +kernel) rfl ?_
  refine j_aload_n g (pc := 1002) (i := 0) (by decide +kernel) rfl ?_
  refine j_iload_n g (pc := 1003) (i := 3) (by decide +kernel) rfl ?_
  refine j_iconst g (pc := 1004) (n := 1) (1) (by decide +kernel) rfl ?_
  refine j_iadd g (pc := 1005) (by decide +kernel) ?_
  refine j_sld gs (pc := 1006) h1 (by decide +kernel) ?_
  refine j_cV1r g (pc := 1007) v9_129 ⟨rfl, by decide⟩ (by decide +kernel) (by decide +kernel) (Nat.le_of_ble_eq_true rfl) hb ?_
  exact j_icmp_eq g (pc := 1010) (off := 473) (tgt := 1483) (by decide +kernel) (by decide) (fun _ => k) (fun h => absurd e h)
theorem lc_27 (gs : GoodS code 4 31 Ln xs J) {v w : Int32} (h1 : vp_in (i + 1) Ln) (ha : Rn 30 mX7_orderOf [.ref 1, .int (xs (Int32.toNatClampNeg (i + 1)))] M (some (.int v)) M1) (hb : Rn 30 mX8_orderOf [.ref 600, .int (xs (Int32.toNatClampNeg (i + 1)))] M1 (some (.int w)) M2) (e : v = w) (k : J 1483 [some (.ref 900), some (.ref 1), some (.ref 600), some (.int i)] [] M2) : J 1015 [some (.ref 900), some (.ref 1), some (.ref 600), some (.int i)] [] M := by
  have g := gs.g
  refine j_aload_n g (pc := 1015) (i := 1) (by decide +kernel) rfl ?_
  refine j_aload_n g (pc := 1016) (i := 0) (by decide +kernel) rfl ?_
  refine j_iload_n g (pc := 1017) (i := 3) (by decide +kernel) rfl ?_
  refine j_iconst g (pc := 1018) (n := 1) (1) (by decide +kernel) rfl ?_
  refine j_iadd g (pc := 1019) (by decide +kernel) ?_
  refine j_sld gs (pc := 1020) h1 (by decide +kernel) ?_
  refine j_cV1r g (pc := 1021) v9_130 ⟨rfl, by decide⟩ (by decide +kernel) (by decide +kernel) (Nat.le_of_ble_eq_true rfl) ha ?_
  refine j_aload_n g (pc := 1024) (i := 2) (by decide +kernel) rfl ?_
  refine j_aload_n g (pc := 1025) (i := 0) (by decide +kernel) rfl ?_
  refine j_iload_n g (pc := 1026) (i := 3) (by decide +kernel) rfl ?_
  refine j_iconst g (pc := 1027) (n := 1) (1) (by decide +kernel) rfl ?_
  refine j_iadd g (pc := 1028) (by decide +kernel) ?_
  refine j_sld gs (pc := 1029) h1 (by decide +kernel) ?_
  refine j_cV1r g (pc := 1030) v9_133 ⟨rfl, by decide⟩ (by decide +kernel) (by decide +kernel) (Nat.le_of_ble_eq_true rfl) hb ?_
  exact j_icmp_eq g (pc := 1033) (off := 450) (tgt := 1483) (by decide +kernel) (by decide) (fun _ => k) (fun h => absurd e h)
theorem lc_28 (gs : GoodS code 4 31 Ln xs J) {v w : Int32}  (ha : Rn 30 mX7_prove [.ref 1] M (some (.int v)) M1) (hb : Rn 30 mX8_prove [.ref 600] M1 (some (.int w)) M2) (e : v = w) (k : J 1483 [some (.ref 900), some (.ref 1), some (.ref 600), some (.int i)] [] M2) : J 1038 [some (.ref 900), some (.ref 1), some (.ref 600), some (.int i)] [] M := by
  have g := gs.g
  refine j_aload_n g (pc := 1038) (i := 1) (by decide +kernel) rfl ?_
  refine j_cV0r g (pc := 1039) v9_134 ⟨rfl, by decide⟩ (by decide +kernel) (by decide +kernel) (Nat.le_of_ble_eq_true rfl) ha ?_
  refine j_aload_n g (pc := 1042) (i := 2) (by decide +kernel) rfl ?_
  refine j_cV0r g (pc := 1043) v9_137 ⟨rfl, by decide⟩ (by decide +kernel) (by decide +kernel) (Nat.le_of_ble_eq_true rfl) hb ?_
  exact j_icmp_eq g (pc := 1046) (off := 437) (tgt := 1483) (by decide +kernel) (by decide) (fun _ => k) (fun h => absurd e h)
theorem lc_29 (gs : GoodS code 4 31 Ln xs J) {v w : Int32} (h1 : vp_in (i + 1) Ln) (h2 : vp_in (i + 2) Ln) (ha : Rn 30 mX7_row [.ref 1, .int (xs (Int32.toNatClampNeg (i + 1))), .int (xs (Int32.toNatClampNeg (i + 2)))] M (some (.int v)) M1) (hb : Rn 30 mX8_row [.ref 600, .int (xs (Int32.toNatClampNeg (i + 1))), .int (xs (Int32.toNatClampNeg (i + 2)))] M1 (some (.int w)) M2) (e : v = w) (k : J 1483 [some (.ref 900), some (.ref 1), some (.ref 600), some (.int i)] [] M2) : J 1051 [some (.ref 900), some (.ref 1), some (.ref 600), some (.int i)] [] M := by
  have g := gs.g
  refine j_aload_n g (pc := 1051) (i := 1) (by decide +kernel) rfl ?_
  refine j_aload_n g (pc := 1052) (i := 0) (by decide +kernel) rfl ?_
  refine j_iload_n g (pc := 1053) (i := 3) (by decide +kernel) rfl ?_
  refine j_iconst g (pc := 1054) (n := 1) (1) (by decide +kernel) rfl ?_
  refine j_iadd g (pc := 1055) (by decide +kernel) ?_
  refine j_sld gs (pc := 1056) h1 (by decide +kernel) ?_
  refine j_aload_n g (pc := 1057) (i := 0) (by decide +kernel) rfl ?_
  refine j_iload_n g (pc := 1058) (i := 3) (by decide +kernel) rfl ?_
  refine j_iconst g (pc := 1059) (n := 2) (2) (by decide +kernel) rfl ?_
  refine j_iadd g (pc := 1060) (by decide +kernel) ?_
  refine j_sld gs (pc := 1061) h2 (by decide +kernel) ?_
  refine j_cV2r g (pc := 1062) v9_138 ⟨rfl, by decide⟩ (by decide +kernel) (by decide +kernel) (Nat.le_of_ble_eq_true rfl) ha ?_
  refine j_aload_n g (pc := 1065) (i := 2) (by decide +kernel) rfl ?_
  refine j_aload_n g (pc := 1066) (i := 0) (by decide +kernel) rfl ?_
  refine j_iload_n g (pc := 1067) (i := 3) (by decide +kernel) rfl ?_
  refine j_iconst g (pc := 1068) (n := 1) (1) (by decide +kernel) rfl ?_
  refine j_iadd g (pc := 1069) (by decide +kernel) ?_
  refine j_sld gs (pc := 1070) h1 (by decide +kernel) ?_
  refine j_aload_n g (pc := 1071) (i := 0) (by decide +kernel) rfl ?_
  refine j_iload_n g (pc := 1072) (i := 3) (by decide +kernel) rfl ?_
  refine j_iconst g (pc := 1073) (n := 2) (2) (by decide +kernel) rfl ?_
  refine j_iadd g (pc := 1074) (by decide +kernel) ?_
  refine j_sld gs (pc := 1075) h2 (by decide +kernel) ?_
  refine j_cV2r g (pc := 1076) v9_141 ⟨rfl, by decide⟩ (by decide +kernel) (by decide +kernel) (Nat.le_of_ble_eq_true rfl) hb ?_
  exact j_icmp_eq g (pc := 1079) (off := 404) (tgt := 1483) (by decide +kernel) (by decide) (fun _ => k) (fun h => absurd e h)
theorem lc_30 (gs : GoodS code 4 31 Ln xs J) {v w : Int32} (h1 : vp_in (i + 1) Ln) (h2 : vp_in (i + 2) Ln) (h3 : vp_in (i + 3) Ln) (ha : Rn 30 mX7_alterRow [.ref 1, .int (xs (Int32.toNatClampNeg (i + 1))), .int (xs (Int32.toNatClampNeg (i + 2))), .int (xs (Int32.toNatClampNeg (i + 3)))] M (some (.int v)) M1) (hb : Rn 30 mX8_alterRow [.ref 600, .int (xs (Int32.toNatClampNeg (i + 1))), .int (xs (Int32.toNatClampNeg (i + 2))), .int (xs (Int32.toNatClampNeg (i + 3)))] M1 (some (.int w)) M2) (e : v = w) (k : J 1483 [some (.ref 900), some (.ref 1), some (.ref 600), some (.int i)] [] M2) : J 1084 [some (.ref 900), some (.ref 1), some (.ref 600), some (.int i)] [] M := by
  have g := gs.g
  refine j_aload_n g (pc := 1084) (i := 1) (by decide +kernel) rfl ?_
  refine j_aload_n g (pc := 1085) (i := 0) (by decide +kernel) rfl ?_
  refine j_iload_n g (pc := 1086) (i := 3) (by decide +kernel) rfl ?_
  refine j_iconst g (pc := 1087) (n := 1) (1) (by decide +kernel) rfl ?_
  refine j_iadd g (pc := 1088) (by decide +kernel) ?_
  refine j_sld gs (pc := 1089) h1 (by decide +kernel) ?_
  refine j_aload_n g (pc := 1090) (i := 0) (by decide +kernel) rfl ?_
  refine j_iload_n g (pc := 1091) (i := 3) (by decide +kernel) rfl ?_
  refine j_iconst g (pc := 1092) (n := 2) (2) (by decide +kernel) rfl ?_
  refine j_iadd g (pc := 1093) (by decide +kernel) ?_
  refine j_sld gs (pc := 1094) h2 (by decide +kernel) ?_
  refine j_aload_n g (pc := 1095) (i := 0) (by decide +kernel) rfl ?_
  refine j_iload_n g (pc := 1096) (i := 3) (by decide +kernel) rfl ?_
  refine j_iconst g (pc := 1097) (n := 3) (3) (by decide +kernel) rfl ?_
  refine j_iadd g (pc := 1098) (by decide +kernel) ?_
  refine j_sld gs (pc := 1099) h3 (by decide +kernel) ?_
  refine j_cV3r g (pc := 1100) v9_142 ⟨rfl, by decide⟩ (by decide +kernel) (by decide +kernel) (Nat.le_of_ble_eq_true rfl) ha ?_
  refine j_aload_n g (pc := 1103) (i := 2) (by decide +kernel) rfl ?_
  refine j_aload_n g (pc := 1104) (i := 0) (by decide +kernel) rfl ?_
  refine j_iload_n g (pc := 1105) (i := 3) (by decide +kernel) rfl ?_
  refine j_iconst g (pc := 1106) (n := 1) (1) (by decide +kernel) rfl ?_
  refine j_iadd g (pc := 1107) (by decide +kernel) ?_
  refine j_sld gs (pc := 1108) h1 (by decide +kernel) ?_
  refine j_aload_n g (pc := 1109) (i := 0) (by decide +kernel) rfl ?_
  refine j_iload_n g (pc := 1110) (i := 3) (by decide +kernel) rfl ?_
  refine j_iconst g (pc := 1111) (n := 2) (2) (by decide +kernel) rfl ?_
  refine j_iadd g (pc := 1112) (by decide +kernel) ?_
  refine j_sld gs (pc := 1113) h2 (by decide +kernel) ?_
  refine j_aload_n g (pc := 1114) (i := 0) (by decide +kernel) rfl ?_
  refine j_iload_n g (pc := 1115) (i := 3) (by decide +kernel) rfl ?_
  refine j_iconst g (pc := 1116) (n := 3) (3) (by decide +kernel) rfl ?_
  refine j_iadd g (pc := 1117) (by decide +kernel) ?_
  refine j_sld gs (pc := 1118) h3 (by decide +kernel) ?_
  refine j_cV3r g (pc := 1119) v9_145 ⟨rfl, by decide⟩ (by decide +kernel) (by decide +kernel) (Nat.le_of_ble_eq_true rfl) hb ?_
  exact j_icmp_eq g (pc := 1122) (off := 361) (tgt := 1483) (by decide +kernel) (by decide) (fun _ => k) (fun h => absurd e h)
theorem lc_31 (gs : GoodS code 4 31 Ln xs J) {v w : Int32}  (ha : Rn 30 mX7_judge [.ref 1] M (some (.int v)) M1) (hb : Rn 30 mX8_judge [.ref 600] M1 (some (.int w)) M2) (e : v = w) (k : J 1483 [some (.ref 900), some (.ref 1), some (.ref 600), some (.int i)] [] M2) : J 1127 [some (.ref 900), some (.ref 1), some (.ref 600), some (.int i)] [] M := by
  have g := gs.g
  refine j_aload_n g (pc := 1127) (i := 1) (by decide +kernel) rfl ?_
  refine j_cV0r g (pc := 1128) v9_146 ⟨rfl, by decide⟩ (by decide +kernel) (by decide +kernel) (Nat.le_of_ble_eq_true rfl) ha ?_
  refine j_aload_n g (pc := 1131) (i := 2) (by decide +kernel) rfl ?_
  refine j_cV0r g (pc := 1132) v9_149 ⟨rfl, by decide⟩ (by decide +kernel) (by decide +kernel) (Nat.le_of_ble_eq_true rfl) hb ?_
  exact j_icmp_eq g (pc := 1135) (off := 348) (tgt := 1483) (by decide +kernel) (by decide) (fun _ => k) (fun h => absurd e h)
theorem lc_32 (gs : GoodS code 4 31 Ln xs J) {v w : Int32} (h1 : vp_in (i + 1) Ln) (ha : Rn 30 mX7_dues [.ref 1, .int (xs (Int32.toNatClampNeg (i + 1)))] M (some (.int v)) M1) (hb : Rn 30 mX8_dues [.ref 600, .int (xs (Int32.toNatClampNeg (i + 1)))] M1 (some (.int w)) M2) (e : v = w) (k : J 1483 [some (.ref 900), some (.ref 1), some (.ref 600), some (.int i)] [] M2) : J 1140 [some (.ref 900), some (.ref 1), some (.ref 600), some (.int i)] [] M := by
  have g := gs.g
  refine j_aload_n g (pc := 1140) (i := 1) (by decide +kernel) rfl ?_
  refine j_aload_n g (pc := 1141) (i := 0) (by decide +kernel) rfl ?_
  refine j_iload_n g (pc := 1142) (i := 3) (by decide +kernel) rfl ?_
  refine j_iconst g (pc := 1143) (n := 1) (1) (by decide +kernel) rfl ?_
  refine j_iadd g (pc := 1144) (by decide +kernel) ?_
  refine j_sld gs (pc := 1145) h1 (by decide +kernel) ?_
  refine j_cV1r g (pc := 1146) v9_150 ⟨rfl, by decide⟩ (by decide +kernel) (by decide +kernel) (Nat.le_of_ble_eq_true rfl) ha ?_
  refine j_aload_n g (pc := 1149) (i := 2) (by decide +kernel) rfl ?_
  refine j_aload_n g (pc := 1150) (i := 0) (by decide +kernel) rfl ?_
  refine j_iload_n g (pc := 1151) (i := 3) (by decide +kernel) rfl ?_
  refine j_iconst g (pc := 1152) (n := 1) (1) (by decide +kernel) rfl ?_
  refine j_iadd g (pc := 1153) (by decide +kernel) ?_
  refine j_sld gs (pc := 1154) h1 (by decide +kernel) ?_
  refine j_cV1r g (pc := 1155) v9_153 ⟨rfl, by decide⟩ (by decide +kernel) (by decide +kernel) (Nat.le_of_ble_eq_true rfl) hb ?_
  exact j_icmp_eq g (pc := 1158) (off := 325) (tgt := 1483) (by decide +kernel) (by decide) (fun _ => k) (fun h => absurd e h)
theorem lc_33 (gs : GoodS code 4 31 Ln xs J) {v w : Int32} (h1 : vp_in (i + 1) Ln) (h2 : vp_in (i + 2) Ln) (h3 : vp_in (i + 3) Ln) (ha : Rn 30 mX7_sheet [.ref 1, .int (xs (Int32.toNatClampNeg (i + 1))), .int (xs (Int32.toNatClampNeg (i + 2))), .int (xs (Int32.toNatClampNeg (i + 3)))] M (some (.int v)) M1) (hb : Rn 30 mX8_sheet [.ref 600, .int (xs (Int32.toNatClampNeg (i + 1))), .int (xs (Int32.toNatClampNeg (i + 2))), .int (xs (Int32.toNatClampNeg (i + 3)))] M1 (some (.int w)) M2) (e : v = w) (k : J 1483 [some (.ref 900), some (.ref 1), some (.ref 600), some (.int i)] [] M2) : J 1163 [some (.ref 900), some (.ref 1), some (.ref 600), some (.int i)] [] M := by
  have g := gs.g
  refine j_aload_n g (pc := 1163) (i := 1) (by decide +kernel) rfl ?_
  refine j_aload_n g (pc := 1164) (i := 0) (by decide +kernel) rfl ?_
  refine j_iload_n g (pc := 1165) (i := 3) (by decide +kernel) rfl ?_
  refine j_iconst g (pc := 1166) (n := 1) (1) (by decide +kernel) rfl ?_
  refine j_iadd g (pc := 1167) (by decide +kernel) ?_
  refine j_sld gs (pc := 1168) h1 (by decide +kernel) ?_
  refine j_aload_n g (pc := 1169) (i := 0) (by decide +kernel) rfl ?_
  refine j_iload_n g (pc := 1170) (i := 3) (by decide +kernel) rfl ?_
  refine j_iconst g (pc := 1171) (n := 2) (2) (by decide +kernel) rfl ?_
  refine j_iadd g (pc := 1172) (by decide +kernel) ?_
  refine j_sld gs (pc := 1173) h2 (by decide +kernel) ?_
  refine j_aload_n g (pc := 1174) (i := 0) (by decide +kernel) rfl ?_
  refine j_iload_n g (pc := 1175) (i := 3) (by decide +kernel) rfl ?_
  refine j_iconst g (pc := 1176) (n := 3) (3) (by decide +kernel) rfl ?_
  refine j_iadd g (pc := 1177) (by decide +kernel) ?_
  refine j_sld gs (pc := 1178) h3 (by decide +kernel) ?_
  refine j_cV3r g (pc := 1179) v9_154 ⟨rfl, by decide⟩ (by decide +kernel) (by decide +kernel) (Nat.le_of_ble_eq_true rfl) ha ?_
  refine j_aload_n g (pc := 1182) (i := 2) (by decide +kernel) rfl ?_
  refine j_aload_n g (pc := 1183) (i := 0) (by decide +kernel) rfl ?_
  refine j_iload_n g (pc := 1184) (i := 3) (by decide +kernel) rfl ?_
  refine j_iconst g (pc := 1185) (n := 1) (1) (by decide +kernel) rfl ?_
  refine j_iadd g (pc := 1186) (by decide +kernel) ?_
  refine j_sld gs (pc := 1187) h1 (by decide +kernel) ?_
  refine j_aload_n g (pc := 1188) (i := 0) (by decide +kernel) rfl ?_
  refine j_iload_n g (pc := 1189) (i := 3) (by decide +kernel) rfl ?_
  refine j_iconst g (pc := 1190) (n := 2) (2) (by decide +kernel) rfl ?_
  refine j_iadd g (pc := 1191) (by decide +kernel) ?_
  refine j_sld gs (pc := 1192) h2 (by decide +kernel) ?_
  refine j_aload_n g (pc := 1193) (i := 0) (by decide +kernel) rfl ?_
  refine j_iload_n g (pc := 1194) (i := 3) (by decide +kernel) rfl ?_
  refine j_iconst g (pc := 1195) (n := 3) (3) (by decide +kernel) rfl ?_
  refine j_iadd g (pc := 1196) (by decide +kernel) ?_
  refine j_sld gs (pc := 1197) h3 (by decide +kernel) ?_
  refine j_cV3r g (pc := 1198) v9_157 ⟨rfl, by decide⟩ (by decide +kernel) (by decide +kernel) (Nat.le_of_ble_eq_true rfl) hb ?_
  exact j_icmp_eq g (pc := 1201) (off := 282) (tgt := 1483) (by decide +kernel) (by decide) (fun _ => k) (fun h => absurd e h)
theorem lc_34 (gs : GoodS code 4 31 Ln xs J) {v w : Int32} (h1 : vp_in (i + 1) Ln) (h2 : vp_in (i + 2) Ln) (h3 : vp_in (i + 3) Ln) (ha : Rn 30 mX7_write [.ref 1, .int (xs (Int32.toNatClampNeg (i + 1))), .int (xs (Int32.toNatClampNeg (i + 2))), .int (xs (Int32.toNatClampNeg (i + 3)))] M (some (.int v)) M1) (hb : Rn 30 mX8_write [.ref 600, .int (xs (Int32.toNatClampNeg (i + 1))), .int (xs (Int32.toNatClampNeg (i + 2))), .int (xs (Int32.toNatClampNeg (i + 3)))] M1 (some (.int w)) M2) (e : v = w) (k : J 1483 [some (.ref 900), some (.ref 1), some (.ref 600), some (.int i)] [] M2) : J 1206 [some (.ref 900), some (.ref 1), some (.ref 600), some (.int i)] [] M := by
  have g := gs.g
  refine j_aload_n g (pc := 1206) (i := 1) (by decide +kernel) rfl ?_
  refine j_aload_n g (pc := 1207) (i := 0) (by decide +kernel) rfl ?_
  refine j_iload_n g (pc := 1208) (i := 3) (by decide +kernel) rfl ?_
  refine j_iconst g (pc := 1209) (n := 1) (1) (by decide +kernel) rfl ?_
  refine j_iadd g (pc := 1210) (by decide +kernel) ?_
  refine j_sld gs (pc := 1211) h1 (by decide +kernel) ?_
  refine j_aload_n g (pc := 1212) (i := 0) (by decide +kernel) rfl ?_
  refine j_iload_n g (pc := 1213) (i := 3) (by decide +kernel) rfl ?_
  refine j_iconst g (pc := 1214) (n := 2) (2) (by decide +kernel) rfl ?_
  refine j_iadd g (pc := 1215) (by decide +kernel) ?_
  refine j_sld gs (pc := 1216) h2 (by decide +kernel) ?_
  refine j_aload_n g (pc := 1217) (i := 0) (by decide +kernel) rfl ?_
  refine j_iload_n g (pc := 1218) (i := 3) (by decide +kernel) rfl ?_
  refine j_iconst g (pc := 1219) (n := 3) (3) (by decide +kernel) rfl ?_
  refine j_iadd g (pc := 1220) (by decide +kernel) ?_
  refine j_sld gs (pc := 1221) h3 (by decide +kernel) ?_
  refine j_cV3r g (pc := 1222) v9_158 ⟨rfl, by decide⟩ (by decide +kernel) (by decide +kernel) (Nat.le_of_ble_eq_true rfl) ha ?_
  refine j_aload_n g (pc := 1225) (i := 2) (by decide +kernel) rfl ?_
  refine j_aload_n g (pc := 1226) (i := 0) (by decide +kernel) rfl ?_
  refine j_iload_n g (pc := 1227) (i := 3) (by decide +kernel) rfl ?_
  refine j_iconst g (pc := 1228) (n := 1) (1) (by decide +kernel) rfl ?_
  refine j_iadd g (pc := 1229) (by decide +kernel) ?_
  refine j_sld gs (pc := 1230) h1 (by decide +kernel) ?_
  refine j_aload_n g (pc := 1231) (i := 0) (by decide +kernel) rfl ?_
  refine j_iload_n g (pc := 1232) (i := 3) (by decide +kernel) rfl ?_
  refine j_iconst g (pc := 1233) (n := 2) (2) (by decide +kernel) rfl ?_
  refine j_iadd g (pc := 1234) (by decide +kernel) ?_
  refine j_sld gs (pc := 1235) h2 (by decide +kernel) ?_
  refine j_aload_n g (pc := 1236) (i := 0) (by decide +kernel) rfl ?_
  refine j_iload_n g (pc := 1237) (i := 3) (by decide +kernel) rfl ?_
  refine j_iconst g (pc := 1238) (n := 3) (3) (by decide +kernel) rfl ?_
  refine j_iadd g (pc := 1239) (by decide +kernel) ?_
  refine j_sld gs (pc := 1240) h3 (by decide +kernel) ?_
  refine j_cV3r g (pc := 1241) v9_161 ⟨rfl, by decide⟩ (by decide +kernel) (by decide +kernel) (Nat.le_of_ble_eq_true rfl) hb ?_
  exact j_icmp_eq g (pc := 1244) (off := 239) (tgt := 1483) (by decide +kernel) (by decide) (fun _ => k) (fun h => absurd e h)
theorem lc_35 (gs : GoodS code 4 31 Ln xs J) {v w : Int32} (h1 : vp_in (i + 1) Ln) (h2 : vp_in (i + 2) Ln) (h3 : vp_in (i + 3) Ln) (ha : Rn 30 mX7_item [.ref 1, .int (xs (Int32.toNatClampNeg (i + 1))), .int (xs (Int32.toNatClampNeg (i + 2))), .int (xs (Int32.toNatClampNeg (i + 3)))] M (some (.int v)) M1) (hb : Rn 30 mX8_item [.ref 600, .int (xs (Int32.toNatClampNeg (i + 1))), .int (xs (Int32.toNatClampNeg (i + 2))), .int (xs (Int32.toNatClampNeg (i + 3)))] M1 (some (.int w)) M2) (e : v = w) (k : J 1483 [some (.ref 900), some (.ref 1), some (.ref 600), some (.int i)] [] M2) : J 1249 [some (.ref 900), some (.ref 1), some (.ref 600), some (.int i)] [] M := by
  have g := gs.g
  refine j_aload_n g (pc := 1249) (i := 1) (by decide +kernel) rfl ?_
  refine j_aload_n g (pc := 1250) (i := 0) (by decide +kernel) rfl ?_
  refine j_iload_n g (pc := 1251) (i := 3) (by decide +kernel) rfl ?_
  refine j_iconst g (pc := 1252) (n := 1) (1) (by decide +kernel) rfl ?_
  refine j_iadd g (pc := 1253) (by decide +kernel) ?_
  refine j_sld gs (pc := 1254) h1 (by decide +kernel) ?_
  refine j_aload_n g (pc := 1255) (i := 0) (by decide +kernel) rfl ?_
  refine j_iload_n g (pc := 1256) (i := 3) (by decide +kernel) rfl ?_
  refine j_iconst g (pc := 1257) (n := 2) (2) (by decide +kernel) rfl ?_
  refine j_iadd g (pc := 1258) (by decide +kernel) ?_
  refine j_sld gs (pc := 1259) h2 (by decide +kernel) ?_
  refine j_aload_n g (pc := 1260) (i := 0) (by decide +kernel) rfl ?_
  refine j_iload_n g (pc := 1261) (i := 3) (by decide +kernel) rfl ?_
  refine j_iconst g (pc := 1262) (n := 3) (3) (by decide +kernel) rfl ?_
  refine j_iadd g (pc := 1263) (by decide +kernel) ?_
  refine j_sld gs (pc := 1264) h3 (by decide +kernel) ?_
  refine j_cV3r g (pc := 1265) v9_162 ⟨rfl, by decide⟩ (by decide +kernel) (by decide +kernel) (Nat.le_of_ble_eq_true rfl) ha ?_
  refine j_aload_n g (pc := 1268) (i := 2) (by decide +kernel) rfl ?_
  refine j_aload_n g (pc := 1269) (i := 0) (by decide +kernel) rfl ?_
  refine j_iload_n g (pc := 1270) (i := 3) (by decide +kernel) rfl ?_
  refine j_iconst g (pc := 1271) (n := 1) (1) (by decide +kernel) rfl ?_
  refine j_iadd g (pc := 1272) (by decide +kernel) ?_
  refine j_sld gs (pc := 1273) h1 (by decide +kernel) ?_
  refine j_aload_n g (pc := 1274) (i := 0) (by decide +kernel) rfl ?_
  refine j_iload_n g (pc := 1275) (i := 3) (by decide +kernel) rfl ?_
  refine j_iconst g (pc := 1276) (n := 2) (2) (by decide +kernel) rfl ?_
  refine j_iadd g (pc := 1277) (by decide +kernel) ?_
  refine j_sld gs (pc := 1278) h2 (by decide +kernel) ?_
  refine j_aload_n g (pc := 1279) (i := 0) (by decide +kernel) rfl ?_
  refine j_iload_n g (pc := 1280) (i := 3) (by decide +kernel) rfl ?_
  refine j_iconst g (pc := 1281) (n := 3) (3) (by decide +kernel) rfl ?_
  refine j_iadd g (pc := 1282) (by decide +kernel) ?_
  refine j_sld gs (pc := 1283) h3 (by decide +kernel) ?_
  refine j_cV3r g (pc := 1284) v9_165 ⟨rfl, by decide⟩ (by decide +kernel) (by decide +kernel) (Nat.le_of_ble_eq_true rfl) hb ?_
  exact j_icmp_eq g (pc := 1287) (off := 196) (tgt := 1483) (by decide +kernel) (by decide) (fun _ => k) (fun h => absurd e h)
theorem lc_36 (gs : GoodS code 4 31 Ln xs J) {v w : Int32} (h1 : vp_in (i + 1) Ln) (h2 : vp_in (i + 2) Ln) (h3 : vp_in (i + 3) Ln) (ha : Rn 30 mX7_shelf [.ref 1, .int (xs (Int32.toNatClampNeg (i + 1))), .int (xs (Int32.toNatClampNeg (i + 2))), .int (xs (Int32.toNatClampNeg (i + 3)))] M (some (.int v)) M1) (hb : Rn 30 mX8_shelf [.ref 600, .int (xs (Int32.toNatClampNeg (i + 1))), .int (xs (Int32.toNatClampNeg (i + 2))), .int (xs (Int32.toNatClampNeg (i + 3)))] M1 (some (.int w)) M2) (e : v = w) (k : J 1483 [some (.ref 900), some (.ref 1), some (.ref 600), some (.int i)] [] M2) : J 1292 [some (.ref 900), some (.ref 1), some (.ref 600), some (.int i)] [] M := by
  have g := gs.g
  refine j_aload_n g (pc := 1292) (i := 1) (by decide +kernel) rfl ?_
  refine j_aload_n g (pc := 1293) (i := 0) (by decide +kernel) rfl ?_
  refine j_iload_n g (pc := 1294) (i := 3) (by decide +kernel) rfl ?_
  refine j_iconst g (pc := 1295) (n := 1) (1) (by decide +kernel) rfl ?_
  refine j_iadd g (pc := 1296) (by decide +kernel) ?_
  refine j_sld gs (pc := 1297) h1 (by decide +kernel) ?_
  refine j_aload_n g (pc := 1298) (i := 0) (by decide +kernel) rfl ?_
  refine j_iload_n g (pc := 1299) (i := 3) (by decide +kernel) rfl ?_
  refine j_iconst g (pc := 1300) (n := 2) (2) (by decide +kernel) rfl ?_
  refine j_iadd g (pc := 1301) (by decide +kernel) ?_
  refine j_sld gs (pc := 1302) h2 (by decide +kernel) ?_
  refine j_aload_n g (pc := 1303) (i := 0) (by decide +kernel) rfl ?_
  refine j_iload_n g (pc := 1304) (i := 3) (by decide +kernel) rfl ?_
  refine j_iconst g (pc := 1305) (n := 3) (3) (by decide +kernel) rfl ?_
  refine j_iadd g (pc := 1306) (by decide +kernel) ?_
  refine j_sld gs (pc := 1307) h3 (by decide +kernel) ?_
  refine j_cV3r g (pc := 1308) v9_166 ⟨rfl, by decide⟩ (by decide +kernel) (by decide +kernel) (Nat.le_of_ble_eq_true rfl) ha ?_
  refine j_aload_n g (pc := 1311) (i := 2) (by decide +kernel) rfl ?_
  refine j_aload_n g (pc := 1312) (i := 0) (by decide +kernel) rfl ?_
  refine j_iload_n g (pc := 1313) (i := 3) (by decide +kernel) rfl ?_
  refine j_iconst g (pc := 1314) (n := 1) (1) (by decide +kernel) rfl ?_
  refine j_iadd g (pc := 1315) (by decide +kernel) ?_
  refine j_sld gs (pc := 1316) h1 (by decide +kernel) ?_
  refine j_aload_n g (pc := 1317) (i := 0) (by decide +kernel) rfl ?_
  refine j_iload_n g (pc := 1318) (i := 3) (by decide +kernel) rfl ?_
  refine j_iconst g (pc := 1319) (n := 2) (2) (by decide +kernel) rfl ?_
  refine j_iadd g (pc := 1320) (by decide +kernel) ?_
  refine j_sld gs (pc := 1321) h2 (by decide +kernel) ?_
  refine j_aload_n g (pc := 1322) (i := 0) (by decide +kernel) rfl ?_
  refine j_iload_n g (pc := 1323) (i := 3) (by decide +kernel) rfl ?_
  refine j_iconst g (pc := 1324) (n := 3) (3) (by decide +kernel) rfl ?_
  refine j_iadd g (pc := 1325) (by decide +kernel) ?_
  refine j_sld gs (pc := 1326) h3 (by decide +kernel) ?_
  refine j_cV3r g (pc := 1327) v9_169 ⟨rfl, by decide⟩ (by decide +kernel) (by decide +kernel) (Nat.le_of_ble_eq_true rfl) hb ?_
  exact j_icmp_eq g (pc := 1330) (off := 153) (tgt := 1483) (by decide +kernel) (by decide) (fun _ => k) (fun h => absurd e h)
theorem lc_37 (gs : GoodS code 4 31 Ln xs J) {v w : Int32} (h1 : vp_in (i + 1) Ln) (h2 : vp_in (i + 2) Ln) (ha : Rn 30 mX7_taken [.ref 1, .int (xs (Int32.toNatClampNeg (i + 1))), .int (xs (Int32.toNatClampNeg (i + 2)))] M (some (.int v)) M1) (hb : Rn 30 mX8_taken [.ref 600, .int (xs (Int32.toNatClampNeg (i + 1))), .int (xs (Int32.toNatClampNeg (i + 2)))] M1 (some (.int w)) M2) (e : v = w) (k : J 1483 [some (.ref 900), some (.ref 1), some (.ref 600), some (.int i)] [] M2) : J 1335 [some (.ref 900), some (.ref 1), some (.ref 600), some (.int i)] [] M := by
  have g := gs.g
  refine j_aload_n g (pc := 1335) (i := 1) (by decide +kernel) rfl ?_
  refine j_aload_n g (pc := 1336) (i := 0) (by decide +kernel) rfl ?_
  refine j_iload_n g (pc := 1337) (i := 3) (by decide +kernel) rfl ?_
  refine j_iconst g (pc := 1338) (n := 1) (1) (by decide +kernel) rfl ?_
  refine j_iadd g (pc := 1339) (by decide +kernel) ?_
  refine j_sld gs (pc := 1340) h1 (by decide +kernel) ?_
  refine j_aload_n g (pc := 1341) (i := 0) (by decide +kernel) rfl ?_
  refine j_iload_n g (pc := 1342) (i := 3) (by decide +kernel) rfl ?_
  refine j_iconst g (pc := 1343) (n := 2) (2) (by decide +kernel) rfl ?_
  refine j_iadd g (pc := 1344) (by decide +kernel) ?_
  refine j_sld gs (pc := 1345) h2 (by decide +kernel) ?_
  refine j_cV2r g (pc := 1346) v9_170 ⟨rfl, by decide⟩ (by decide +kernel) (by decide +kernel) (Nat.le_of_ble_eq_true rfl) ha ?_
  refine j_aload_n g (pc := 1349) (i := 2) (by decide +kernel) rfl ?_
  refine j_aload_n g (pc := 1350) (i := 0) (by decide +kernel) rfl ?_
  refine j_iload_n g (pc := 1351) (i := 3) (by decide +kernel) rfl ?_
  refine j_iconst g (pc := 1352) (n := 1) (1) (by decide +kernel) rfl ?_
  refine j_iadd g (pc := 1353) (by decide +kernel) ?_
  refine j_sld gs (pc := 1354) h1 (by decide +kernel) ?_
  refine j_aload_n g (pc := 1355) (i := 0) (by decide +kernel) rfl ?_
  refine j_iload_n g (pc := 1356) (i := 3) (by decide +kernel) rfl ?_
  refine j_iconst g (pc := 1357) (n := 2) (2) (by decide +kernel) rfl ?_
  refine j_iadd g (pc := 1358) (by decide +kernel) ?_
  refine j_sld gs (pc := 1359) h2 (by decide +kernel) ?_
  refine j_cV2r g (pc := 1360) v9_173 ⟨rfl, by decide⟩ (by decide +kernel) (by decide +kernel) (Nat.le_of_ble_eq_true rfl) hb ?_
  exact j_icmp_eq g (pc := 1363) (off := 120) (tgt := 1483) (by decide +kernel) (by decide) (fun _ => k) (fun h => absurd e h)
theorem lc_38 (gs : GoodS code 4 31 Ln xs J) {v w : Int32} (h1 : vp_in (i + 1) Ln) (h2 : vp_in (i + 2) Ln) (h3 : vp_in (i + 3) Ln) (ha : Rn 30 mX7_act [.ref 1, .int (xs (Int32.toNatClampNeg (i + 1))), .int (xs (Int32.toNatClampNeg (i + 2))), .int (xs (Int32.toNatClampNeg (i + 3)))] M (some (.int v)) M1) (hb : Rn 30 mX8_act [.ref 600, .int (xs (Int32.toNatClampNeg (i + 1))), .int (xs (Int32.toNatClampNeg (i + 2))), .int (xs (Int32.toNatClampNeg (i + 3)))] M1 (some (.int w)) M2) (e : v = w) (k : J 1483 [some (.ref 900), some (.ref 1), some (.ref 600), some (.int i)] [] M2) : J 1368 [some (.ref 900), some (.ref 1), some (.ref 600), some (.int i)] [] M := by
  have g := gs.g
  refine j_aload_n g (pc := 1368) (i := 1) (by decide +kernel) rfl ?_
  refine j_aload_n g (pc := 1369) (i := 0) (by decide +kernel) rfl ?_
  refine j_iload_n g (pc := 1370) (i := 3) (by decide +kernel) rfl ?_
  refine j_iconst g (pc := 1371) (n := 1) (1) (by decide +kernel) rfl ?_
  refine j_iadd g (pc := 1372) (by decide +kernel) ?_
  refine j_sld gs (pc := 1373) h1 (by decide +kernel) ?_
  refine j_aload_n g (pc := 1374) (i := 0) (by decide +kernel) rfl ?_
  refine j_iload_n g (pc := 1375) (i := 3) (by decide +kernel) rfl ?_
  refine j_iconst g (pc := 1376) (n := 2) (2) (by decide +kernel) rfl ?_
  refine j_iadd g (pc := 1377) (by decide +kernel) ?_
  refine j_sld gs (pc := 1378) h2 (by decide +kernel) ?_
  refine j_aload_n g (pc := 1379) (i := 0) (by decide +kernel) rfl ?_
  refine j_iload_n g (pc := 1380) (i := 3) (by decide +kernel) rfl ?_
  refine j_iconst g (pc := 1381) (n := 3) (3) (by decide +kernel) rfl ?_
  refine j_iadd g (pc := 1382) (by decide +kernel) ?_
  refine j_sld gs (pc := 1383) h3 (by decide +kernel) ?_
  refine j_cV3r g (pc := 1384) v9_174 ⟨rfl, by decide⟩ (by decide +kernel) (by decide +kernel) (Nat.le_of_ble_eq_true rfl) ha ?_
  refine j_aload_n g (pc := 1387) (i := 2) (by decide +kernel) rfl ?_
  refine j_aload_n g (pc := 1388) (i := 0) (by decide +kernel) rfl ?_
  refine j_iload_n g (pc := 1389) (i := 3) (by decide +kernel) rfl ?_
  refine j_iconst g (pc := 1390) (n := 1) (1) (by decide +kernel) rfl ?_
  refine j_iadd g (pc := 1391) (by decide +kernel) ?_
  refine j_sld gs (pc := 1392) h1 (by decide +kernel) ?_
  refine j_aload_n g (pc := 1393) (i := 0) (by decide +kernel) rfl ?_
  refine j_iload_n g (pc := 1394) (i := 3) (by decide +kernel) rfl ?_
  refine j_iconst g (pc := 1395) (n := 2) (2) (by decide +kernel) rfl ?_
  refine j_iadd g (pc := 1396) (by decide +kernel) ?_
  refine j_sld gs (pc := 1397) h2 (by decide +kernel) ?_
  refine j_aload_n g (pc := 1398) (i := 0) (by decide +kernel) rfl ?_
  refine j_iload_n g (pc := 1399) (i := 3) (by decide +kernel) rfl ?_
  refine j_iconst g (pc := 1400) (n := 3) (3) (by decide +kernel) rfl ?_
  refine j_iadd g (pc := 1401) (by decide +kernel) ?_
  refine j_sld gs (pc := 1402) h3 (by decide +kernel) ?_
  refine j_cV3r g (pc := 1403) v9_177 ⟨rfl, by decide⟩ (by decide +kernel) (by decide +kernel) (Nat.le_of_ble_eq_true rfl) hb ?_
  exact j_icmp_eq g (pc := 1406) (off := 77) (tgt := 1483) (by decide +kernel) (by decide) (fun _ => k) (fun h => absurd e h)
theorem lc_39 (gs : GoodS code 4 31 Ln xs J) {v w : Int32} (h1 : vp_in (i + 1) Ln) (ha : Rn 30 mX7_trace [.ref 1, .int (xs (Int32.toNatClampNeg (i + 1)))] M (some (.int v)) M1) (hb : Rn 30 mX8_trace [.ref 600, .int (xs (Int32.toNatClampNeg (i + 1)))] M1 (some (.int w)) M2) (e : v = w) (k : J 1483 [some (.ref 900), some (.ref 1), some (.ref 600), some (.int i)] [] M2) : J 1411 [some (.ref 900), some (.ref 1), some (.ref 600), some (.int i)] [] M := by
  have g := gs.g
  refine j_aload_n g (pc := 1411) (i := 1) (by decide +kernel) rfl ?_
  refine j_aload_n g (pc := 1412) (i := 0) (by decide +kernel) rfl ?_
  refine j_iload_n g (pc := 1413) (i := 3) (by decide +kernel) rfl ?_
  refine j_iconst g (pc := 1414) (n := 1) (1) (by decide +kernel) rfl ?_
  refine j_iadd g (pc := 1415) (by decide +kernel) ?_
  refine j_sld gs (pc := 1416) h1 (by decide +kernel) ?_
  refine j_cV1r g (pc := 1417) v9_178 ⟨rfl, by decide⟩ (by decide +kernel) (by decide +kernel) (Nat.le_of_ble_eq_true rfl) ha ?_
  refine j_aload_n g (pc := 1420) (i := 2) (by decide +kernel) rfl ?_
  refine j_aload_n g (pc := 1421) (i := 0) (by decide +kernel) rfl ?_
  refine j_iload_n g (pc := 1422) (i := 3) (by decide +kernel) rfl ?_
  refine j_iconst g (pc := 1423) (n := 1) (1) (by decide +kernel) rfl ?_
  refine j_iadd g (pc := 1424) (by decide +kernel) ?_
  refine j_sld gs (pc := 1425) h1 (by decide +kernel) ?_
  refine j_cV1r g (pc := 1426) v9_181 ⟨rfl, by decide⟩ (by decide +kernel) (by decide +kernel) (Nat.le_of_ble_eq_true rfl) hb ?_
  exact j_icmp_eq g (pc := 1429) (off := 54) (tgt := 1483) (by decide +kernel) (by decide) (fun _ => k) (fun h => absurd e h)
theorem lc_40 (gs : GoodS code 4 31 Ln xs J) {v w : Int32} (h1 : vp_in (i + 1) Ln) (ha : Rn 30 mX7_many [.ref 1, .int (xs (Int32.toNatClampNeg (i + 1)))] M (some (.int v)) M1) (hb : Rn 30 mX8_many [.ref 600, .int (xs (Int32.toNatClampNeg (i + 1)))] M1 (some (.int w)) M2) (e : v = w) (k : J 1483 [some (.ref 900), some (.ref 1), some (.ref 600), some (.int i)] [] M2) : J 1434 [some (.ref 900), some (.ref 1), some (.ref 600), some (.int i)] [] M := by
  have g := gs.g
  refine j_aload_n g (pc := 1434) (i := 1) (by decide +kernel) rfl ?_
  refine j_aload_n g (pc := 1435) (i := 0) (by decide +kernel) rfl ?_
  refine j_iload_n g (pc := 1436) (i := 3) (by decide +kernel) rfl ?_
  refine j_iconst g (pc := 1437) (n := 1) (1) (by decide +kernel) rfl ?_
  refine j_iadd g (pc := 1438) (by decide +kernel) ?_
  refine j_sld gs (pc := 1439) h1 (by decide +kernel) ?_
  refine j_cV1r g (pc := 1440) v9_182 ⟨rfl, by decide⟩ (by decide +kernel) (by decide +kernel) (Nat.le_of_ble_eq_true rfl) ha ?_
  refine j_aload_n g (pc := 1443) (i := 2) (by decide +kernel) rfl ?_
  refine j_aload_n g (pc := 1444) (i := 0) (by decide +kernel) rfl ?_
  refine j_iload_n g (pc := 1445) (i := 3) (by decide +kernel) rfl ?_
  refine j_iconst g (pc := 1446) (n := 1) (1) (by decide +kernel) rfl ?_
  refine j_iadd g (pc := 1447) (by decide +kernel) ?_
  refine j_sld gs (pc := 1448) h1 (by decide +kernel) ?_
  refine j_cV1r g (pc := 1449) v9_185 ⟨rfl, by decide⟩ (by decide +kernel) (by decide +kernel) (Nat.le_of_ble_eq_true rfl) hb ?_
  exact j_icmp_eq g (pc := 1452) (off := 31) (tgt := 1483) (by decide +kernel) (by decide) (fun _ => k) (fun h => absurd e h)
theorem lc_41 (gs : GoodS code 4 31 Ln xs J) {v w : Int32}  (ha : Rn 30 mX7_keep [.ref 1] M (some (.int v)) M1) (hb : Rn 30 mX8_keep [.ref 600] M1 (some (.int w)) M2) (e : v = w) (k : J 1483 [some (.ref 900), some (.ref 1), some (.ref 600), some (.int i)] [] M2) : J 1457 [some (.ref 900), some (.ref 1), some (.ref 600), some (.int i)] [] M := by
  have g := gs.g
  refine j_aload_n g (pc := 1457) (i := 1) (by decide +kernel) rfl ?_
  refine j_cV0r g (pc := 1458) v9_186 ⟨rfl, by decide⟩ (by decide +kernel) (by decide +kernel) (Nat.le_of_ble_eq_true rfl) ha ?_
  refine j_aload_n g (pc := 1461) (i := 2) (by decide +kernel) rfl ?_
  refine j_cV0r g (pc := 1462) v9_189 ⟨rfl, by decide⟩ (by decide +kernel) (by decide +kernel) (Nat.le_of_ble_eq_true rfl) hb ?_
  exact j_icmp_eq g (pc := 1465) (off := 18) (tgt := 1483) (by decide +kernel) (by decide) (fun _ => k) (fun h => absurd e h)
theorem lc_42 (gs : GoodS code 4 31 Ln xs J) {v w : Int32}  (ha : Rn 30 mX7_again [.ref 1] M (some (.int v)) M1) (hb : Rn 30 mX8_again [.ref 600] M1 (some (.int w)) M2) (e : v = w) (k : J 1483 [some (.ref 900), some (.ref 1), some (.ref 600), some (.int i)] [] M2) : J 1470 [some (.ref 900), some (.ref 1), some (.ref 600), some (.int i)] [] M := by
  have g := gs.g
  refine j_aload_n g (pc := 1470) (i := 1) (by decide +kernel) rfl ?_
  refine j_cV0r g (pc := 1471) v9_190 ⟨rfl, by decide⟩ (by decide +kernel) (by decide +kernel) (Nat.le_of_ble_eq_true rfl) ha ?_
  refine j_aload_n g (pc := 1474) (i := 2) (by decide +kernel) rfl ?_
  refine j_cV0r g (pc := 1475) v9_193 ⟨rfl, by decide⟩ (by decide +kernel) (by decide +kernel) (Nat.le_of_ble_eq_true rfl) hb ?_
  exact j_icmp_eq g (pc := 1478) (off := 5) (tgt := 1483) (by decide +kernel) (by decide) (fun _ => k) (fun h => absurd e h)
end B9
