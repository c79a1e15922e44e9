theorem om_blind {D : va_G} {r : Nat → Nat} {cA : Nat → ClassId} {M : Mm} {av : List Value} : FrameBlind (va_Pc av (fun U => va_P D om_cl (om_ws r cA M) U.heap ∧ va_K D om_cl (om_tys cA) U ∧ va_D (om_A r) (om_ws r cA M) ∧ Ex r (om_A r) U)) := by
  intro a U g mk q
  obtain ⟨q0, qP, qK, qD, qE⟩ := q
  exact ⟨q0, qP, va_K.moved (u := U) (U := U.calling g mk a) (Vm.Alike.refl U.vm) qK, qD, qE.same rfl rfl⟩
/-- a call's words, of an instance method, of a static one -/
def CB (mi : Mi) (n : Nat) : Prop := Cond.initialized mi.2.1.cls ∈ BIG ∧ Cond.code mi.2.1 mi.2.2.1 mi.2.2.2.1 mi.2.2.2.2 ∈ BIG ∧ mi.2.1.cls ≠ "java/lang/invoke/MethodHandle" ∧ mi.2.1.cls ≠ "java/lang/invoke/VarHandle" ∧ (parseMethodDescriptor mi.2.1.desc).map (fun d => d.parameters.length) = some n ∧ mi.2.2.2.1 ≤ 45
def CV (own idx : Nat) (mi : Mi) (n : Nat) : Prop := Cond.methodLink (om_own own) idx mi.2.1 ∈ BIG ∧ Cond.instanceMethod mi.2.1 ∈ BIG ∧ Cond.selects mi.2.1.cls mi.2.1 mi.2.1 ∈ BIG ∧ CB mi n
def CS (own idx : Nat) (mi : Mi) (n : Nat) : Prop := Cond.methodLink (om_own own) idx mi.2.1 ∈ BIG ∧ Cond.static mi.2.1 ∈ BIG ∧ CB mi n
theorem om_good {ws : List Cond} (h : ∀ w ∈ ws, w ∈ BIG) : GoodIn BIG ws := fun w hw => ⟨h w hw, (big_good w (h w hw)).2⟩
section JC
variable {own : Nat} {bytes : ByteArray} {mL d : Nat} {J : Nat → Lc → List Value → Mm → Prop} {mi : Mi} {idx n b : Nat} {As rest : List Value} {M M1 : Mm} {rv : Option Value} {pc : Nat} {L : Lc}
theorem j_callV0 (g : Good own bytes mL (d + 1) J) (hM : Rn d mi (.ref b :: As) M rv M1) (hc : CV own idx mi n) (hb0 : gk b = mi.1) (hcls : mi.2.1.cls = om_own mi.1 ∧ mi.1 < 9) (hn : As.length = n) (hW : (rest.map fun v => v.category).sum ≤ 8) (hd : decode bytes pc = .ok (.invokevirtual idx, 3)) (k : J (pc + 3) L (rv.toList ++ rest) M1) : J pc L (As.reverse ++ .ref b :: rest) M := by
  obtain ⟨p, l, e, R, s, m, args, below, meth, c, cells, slots, Z, D, r, cA, A, ⟨hx, hb, hml, hown, hts, hK, hE, hD, hRf, hRl, hRc, hRs⟩, rfl⟩ := g
  intro H locs ls hP hS hl
  obtain ⟨w1, w2, w3, w4, w5, w6, w7, w8, w9⟩ := hc
  obtain ⟨q, hq⟩ := gk_at hb0 (by omega)
  have hw := ws_at (r := r) (cA := cA) (M := M) hq
  rw [om_cell_obj hcls.2] at hw
  have hAin : ∀ q, om_A r q → A q := om_A_in (hD (M := M))
  obtain ⟨qc, hqc⟩ : ∃ qc : vw_C, om_cl[mi.1]? = some qc := by
    have h9 := hcls.2
    match mi.1, h9 with
    | 0, _ => exact ⟨_, rfl⟩
    | 1, _ => exact ⟨_, rfl⟩
    | 2, _ => exact ⟨_, rfl⟩
    | 3, _ => exact ⟨_, rfl⟩
    | 4, _ => exact ⟨_, rfl⟩
    | 5, _ => exact ⟨_, rfl⟩
    | 6, _ => exact ⟨_, rfl⟩
    | 7, _ => exact ⟨_, rfl⟩
    | 8, _ => exact ⟨_, rfl⟩
    | n + 9, h => omega
  have hname : qc.1 = mi.2.1.cls := by rw [hcls.1]; exact (om_in mi.1 qc hqc).2.2.2.1
  have hrecv := va_recv hK hP hqc hw
  rw [hname] at hrecv
  have hgood : GoodIn BIG (wsV (om_own own) idx mi.2.1.cls mi.2.1 (Cond.code mi.2.1 mi.2.2.1 mi.2.2.2.1 mi.2.2.2.2 :: BIG)) := by
    apply om_good
    intro w hw
    unfold wsV at hw
    simp only [List.mem_append, List.mem_cons, List.not_mem_nil, or_false] at hw
    rcases hw with (rfl | rfl | rfl | rfl) | rfl | hw
    · exact w1
    · exact w2
    · exact w3
    · exact w4
    · exact w5
    · exact hw
  have hrun := va_runV (p := p) (l := l) (e := e) (R := R) (s := s) (m := m) (args := args) (below := below) (meth := meth) (c := c) (H := H) (locs := locs) (cells := cells) (slots := slots) (cc := bytes) (nL := mL) (Ts := BIG) (own := om_own own) (index := idx) (C := mi.2.1.cls) (b := r b) (As := As.map (om_cv r)) (rest := rest.map (om_cv r)) (g := F0 m pc ls ((As.reverse ++ .ref b :: rest).map (om_cv r)))
    ⟨hx, hb, hml, hown, hts⟩ (hM l D r cA) (cwV n hts hgood rfl rfl rfl ⟨rfl, w6, w7, w8⟩ ⟨by show d + 1 ≤ R.frames; omega, by show 8 + (mi.2.2.2.1 + 11) + 64 * d ≤ R.locals; omega⟩)
    ⟨om_blind, hrecv, fun U hU hWm => ⟨by rfl, by rw [hU]; exact hP, va_K.moved hWm.alike hK, om_D_self (hD (M := M)), hE.to hAin (fun a h1 h2 => by rw [hU]; exact hS.2.1 a h1 h2) hWm⟩⟩
    rfl (by rw [List.length_map]; exact hn) hl.1 (by simp [om_cv]) (lv_room (by rw [om_cats]; exact hW)) hd ⟨by simpa using hRc, by simpa using hRs⟩
  intro T hT X
  obtain ⟨v, st₀, t, T', L2, h0, X', hL, e1, e2, ⟨⟨hv, hp1⟩, hz, hk⟩, st⟩ := hrun T hT X
  rw [h0] at hz hk
  have hv2 : v = rv.map (om_cv r) := by injection hv
  subst hv2
  obtain ⟨t2, a1, b1⟩ := k T'.heap (locs ++ L2) ls (by rw [e1]; exact hp1)
    ⟨Nat.le_trans hS.1 (by rw [e1]; exact hz), fun q h1 h2 => by rw [e1, hk q (Nat.lt_of_lt_of_le h1 hS.1) (fun z => h2 (hAin q z))]; exact hS.2.1 q h1 h2, fun q hq => by
      rcases List.mem_append.mp hq with h | h
      · exact hS.2.2 q h
      · exact hAin _ (hL q h)⟩ hl T' rfl X'
  refine ⟨t2, st t2 ?_, b1⟩
  have es : (rv.map (om_cv r)).toList ++ rest.map (om_cv r) = (rv.toList ++ rest).map (om_cv r) := by cases rv <;> simp
  rw [es]
  exact a1
theorem j_callS0 (g : Good own bytes mL (d + 1) J) (hM : Rn d mi As M rv M1) (hc : CS own idx mi n) (hn : As.length = n) (hW : (rest.map fun v => v.category).sum ≤ 8) (hd : decode bytes pc = .ok (.invokestatic idx, 3)) (k : J (pc + 3) L (rv.toList ++ rest) M1) : J pc L (As.reverse ++ rest) M := by
  obtain ⟨p, l, e, R, s, m, args, below, meth, c, cells, slots, Z, D, r, cA, A, ⟨hx, hb, hml, hown, hts, hK, hE, hD, hRf, hRl, hRc, hRs⟩, rfl⟩ := g
  intro H locs ls hP hS hl
  obtain ⟨w1, w2, w4, w5, w6, w7, w8, w9⟩ := hc
  have hAin : ∀ q, om_A r q → A q := om_A_in (hD (M := M))
  have hgood : GoodIn BIG (va_wsS (om_own own) idx mi.2.1 (Cond.code mi.2.1 mi.2.2.1 mi.2.2.2.1 mi.2.2.2.2 :: BIG)) := by
    apply om_good
    intro w hw
    unfold va_wsS at hw
    simp only [List.mem_append, List.mem_cons, List.not_mem_nil, or_false] at hw
    rcases hw with (rfl | rfl | rfl) | rfl | hw
    · exact w1
    · exact w2
    · exact w4
    · exact w5
    · exact hw
  have hrun := va_runS (p := p) (l := l) (e := e) (R := R) (s := s) (m := m) (args := args) (below := below) (meth := meth) (c := c) (H := H) (locs := locs) (cells := cells) (slots := slots) (cc := bytes) (nL := mL) (Ts := BIG) (own := om_own own) (index := idx) (As := As.map (om_cv r)) (rest := rest.map (om_cv r)) (g := F0 m pc ls ((As.reverse ++ rest).map (om_cv r)))
    ⟨hx, hb, hml, hown, hts⟩ (hM l D r cA) (va_cwS n hts hgood rfl rfl rfl ⟨w6, w7, w8⟩ ⟨by show d + 1 ≤ R.frames; omega, by show 8 + (mi.2.2.2.1 + 11) + 64 * d ≤ R.locals; omega⟩)
    ⟨om_blind, fun U hU hWm => ⟨by rfl, by rw [hU]; exact hP, va_K.moved hWm.alike hK, om_D_self (hD (M := M)), hE.to hAin (fun a h1 h2 => by rw [hU]; exact hS.2.1 a h1 h2) hWm⟩⟩
    rfl (by rw [List.length_map]; exact hn) hl.1 (by simp) (lv_room (by rw [om_cats]; exact hW)) hd ⟨by simpa using hRc, by simpa using hRs⟩
  intro T hT X
  obtain ⟨v, st₀, t, T', L2, h0, X', hL, e1, e2, ⟨⟨hv, hp1⟩, hz, hk⟩, st⟩ := hrun T hT X
  rw [h0] at hz hk
  have hv2 : v = rv.map (om_cv r) := by injection hv
  subst hv2
  obtain ⟨t2, a1, b1⟩ := k T'.heap (locs ++ L2) ls (by rw [e1]; exact hp1)
    ⟨Nat.le_trans hS.1 (by rw [e1]; exact hz), fun q h1 h2 => by rw [e1, hk q (Nat.lt_of_lt_of_le h1 hS.1) (fun z => h2 (hAin q z))]; exact hS.2.1 q h1 h2, fun q hq => by
      rcases List.mem_append.mp hq with h | h
      · exact hS.2.2 q h
      · exact hAin _ (hL q h)⟩ hl T' rfl X'
  refine ⟨t2, st t2 ?_, b1⟩
  have es : (rv.map (om_cv r)).toList ++ rest.map (om_cv r) = (rv.toList ++ rest).map (om_cv r) := by cases rv <;> simp
  rw [es]
  exact a1
end JC
theorem j_cV0r {own : Nat} {bytes : ByteArray} {mL d : Nat} {J : Nat → Lc → List Value → Mm → Prop} {mi : Mi} {idx b : Nat} {rest : List Value} {M M1 : Mm} {pc : Nat} {L : Lc} {v : Value} (g : Good own bytes mL (d + 1) J) (hc : CV own idx mi 0) (hcls : mi.2.1.cls = om_own mi.1 ∧ mi.1 < 9) (hb0 : gk b = mi.1) (hd : decode bytes pc = .ok (.invokevirtual idx, 3)) (hW : (rest.map fun v => v.category).sum ≤ 8) (hM : Rn d mi (.ref b :: []) M (some v) M1) (k : J (pc + 3) L (v :: rest) M1) : J pc L (.ref b :: rest) M := j_callV0 (As := []) g hM hc hb0 hcls rfl hW hd k
theorem j_cS0r {own : Nat} {bytes : ByteArray} {mL d : Nat} {J : Nat → Lc → List Value → Mm → Prop} {mi : Mi} {idx : Nat} {rest : List Value} {M M1 : Mm} {pc : Nat} {L : Lc} {v : Value} (g : Good own bytes mL (d + 1) J) (hc : CS own idx mi 0) (hd : decode bytes pc = .ok (.invokestatic idx, 3)) (hW : (rest.map fun v => v.category).sum ≤ 8) (hM : Rn d mi [] M (some v) M1) (k : J (pc + 3) L (v :: rest) M1) : J pc L (rest) M := j_callS0 (As := []) g hM hc rfl hW hd k
theorem j_cV0v {own : Nat} {bytes : ByteArray} {mL d : Nat} {J : Nat → Lc → List Value → Mm → Prop} {mi : Mi} {idx b : Nat} {rest : List Value} {M M1 : Mm} {pc : Nat} {L : Lc} (g : Good own bytes mL (d + 1) J) (hc : CV own idx mi 0) (hcls : mi.2.1.cls = om_own mi.1 ∧ mi.1 < 9) (hb0 : gk b = mi.1) (hd : decode bytes pc = .ok (.invokevirtual idx, 3)) (hW : (rest.map fun v => v.category).sum ≤ 8) (hM : Rn d mi (.ref b :: []) M none M1) (k : J (pc + 3) L (rest) M1) : J pc L (.ref b :: rest) M := j_callV0 (As := []) g hM hc hb0 hcls rfl hW hd k
theorem j_cS0v {own : Nat} {bytes : ByteArray} {mL d : Nat} {J : Nat → Lc → List Value → Mm → Prop} {mi : Mi} {idx : Nat} {rest : List Value} {M M1 : Mm} {pc : Nat} {L : Lc} (g : Good own bytes mL (d + 1) J) (hc : CS own idx mi 0) (hd : decode bytes pc = .ok (.invokestatic idx, 3)) (hW : (rest.map fun v => v.category).sum ≤ 8) (hM : Rn d mi [] M none M1) (k : J (pc + 3) L (rest) M1) : J pc L (rest) M := j_callS0 (As := []) g hM hc rfl hW hd k
theorem j_cV1r {own : Nat} {bytes : ByteArray} {mL d : Nat} {J : Nat → Lc → List Value → Mm → Prop} {mi : Mi} {idx b : Nat} {rest : List Value} {M M1 : Mm} {pc : Nat} {L : Lc} {a1 : Value} {v : Value} (g : Good own bytes mL (d + 1) J) (hc : CV own idx mi 1) (hcls : mi.2.1.cls = om_own mi.1 ∧ mi.1 < 9) (hb0 : gk b = mi.1) (hd : decode bytes pc = .ok (.invokevirtual idx, 3)) (hW : (rest.map fun v => v.category).sum ≤ 8) (hM : Rn d mi (.ref b :: [a1]) M (some v) M1) (k : J (pc + 3) L (v :: rest) M1) : J pc L (a1 :: .ref b :: rest) M := j_callV0 (As := [a1]) g hM hc hb0 hcls rfl hW hd k
theorem j_cS1r {own : Nat} {bytes : ByteArray} {mL d : Nat} {J : Nat → Lc → List Value → Mm → Prop} {mi : Mi} {idx : Nat} {rest : List Value} {M M1 : Mm} {pc : Nat} {L : Lc} {a1 : Value} {v : Value} (g : Good own bytes mL (d + 1) J) (hc : CS own idx mi 1) (hd : decode bytes pc = .ok (.invokestatic idx, 3)) (hW : (rest.map fun v => v.category).sum ≤ 8) (hM : Rn d mi [a1] M (some v) M1) (k : J (pc + 3) L (v :: rest) M1) : J pc L (a1 :: rest) M := j_callS0 (As := [a1]) g hM hc rfl hW hd k
theorem j_cV1v {own : Nat} {bytes : ByteArray} {mL d : Nat} {J : Nat → Lc → List Value → Mm → Prop} {mi : Mi} {idx b : Nat} {rest : List Value} {M M1 : Mm} {pc : Nat} {L : Lc} {a1 : Value} (g : Good own bytes mL (d + 1) J) (hc : CV own idx mi 1) (hcls : mi.2.1.cls = om_own mi.1 ∧ mi.1 < 9) (hb0 : gk b = mi.1) (hd : decode bytes pc = .ok (.invokevirtual idx, 3)) (hW : (rest.map fun v => v.category).sum ≤ 8) (hM : Rn d mi (.ref b :: [a1]) M none M1) (k : J (pc + 3) L (rest) M1) : J pc L (a1 :: .ref b :: rest) M := j_callV0 (As := [a1]) g hM hc hb0 hcls rfl hW hd k
theorem j_cS1v {own : Nat} {bytes : ByteArray} {mL d : Nat} {J : Nat → Lc → List Value → Mm → Prop} {mi : Mi} {idx : Nat} {rest : List Value} {M M1 : Mm} {pc : Nat} {L : Lc} {a1 : Value} (g : Good own bytes mL (d + 1) J) (hc : CS own idx mi 1) (hd : decode bytes pc = .ok (.invokestatic idx, 3)) (hW : (rest.map fun v => v.category).sum ≤ 8) (hM : Rn d mi [a1] M none M1) (k : J (pc + 3) L (rest) M1) : J pc L (a1 :: rest) M := j_callS0 (As := [a1]) g hM hc rfl hW hd k
theorem j_cV2r {own : Nat} {bytes : ByteArray} {mL d : Nat} {J : Nat → Lc → List Value → Mm → Prop} {mi : Mi} {idx b : Nat} {rest : List Value} {M M1 : Mm} {pc : Nat} {L : Lc} {a1 a2 : Value} {v : Value} (g : Good own bytes mL (d + 1) J) (hc : CV own idx mi 2) (hcls : mi.2.1.cls = om_own mi.1 ∧ mi.1 < 9) (hb0 : gk b = mi.1) (hd : decode bytes pc = .ok (.invokevirtual idx, 3)) (hW : (rest.map fun v => v.category).sum ≤ 8) (hM : Rn d mi (.ref b :: [a1, a2]) M (some v) M1) (k : J (pc + 3) L (v :: rest) M1) : J pc L (a2 :: a1 :: .ref b :: rest) M := j_callV0 (As := [a1, a2]) g hM hc hb0 hcls rfl hW hd k
theorem j_cS2r {own : Nat} {bytes : ByteArray} {mL d : Nat} {J : Nat → Lc → List Value → Mm → Prop} {mi : Mi} {idx : Nat} {rest : List Value} {M M1 : Mm} {pc : Nat} {L : Lc} {a1 a2 : Value} {v : Value} (g : Good own bytes mL (d + 1) J) (hc : CS own idx mi 2) (hd : decode bytes pc = .ok (.invokestatic idx, 3)) (hW : (rest.map fun v => v.category).sum ≤ 8) (hM : Rn d mi [a1, a2] M (some v) M1) (k : J (pc + 3) L (v :: rest) M1) : J pc L (a2 :: a1 :: rest) M := j_callS0 (As := [a1, a2]) g hM hc rfl hW hd k
theorem j_cV2v {own : Nat} {bytes : ByteArray} {mL d : Nat} {J : Nat → Lc → List Value → Mm → Prop} {mi : Mi} {idx b : Nat} {rest : List Value} {M M1 : Mm} {pc : Nat} {L : Lc} {a1 a2 : Value} (g : Good own bytes mL (d + 1) J) (hc : CV own idx mi 2) (hcls : mi.2.1.cls = om_own mi.1 ∧ mi.1 < 9) (hb0 : gk b = mi.1) (hd : decode bytes pc = .ok (.invokevirtual idx, 3)) (hW : (rest.map fun v => v.category).sum ≤ 8) (hM : Rn d mi (.ref b :: [a1, a2]) M none M1) (k : J (pc + 3) L (rest) M1) : J pc L (a2 :: a1 :: .ref b :: rest) M := j_callV0 (As := [a1, a2]) g hM hc hb0 hcls rfl hW hd k
theorem j_cS2v {own : Nat} {bytes : ByteArray} {mL d : Nat} {J : Nat → Lc → List Value → Mm → Prop} {mi : Mi} {idx : Nat} {rest : List Value} {M M1 : Mm} {pc : Nat} {L : Lc} {a1 a2 : Value} (g : Good own bytes mL (d + 1) J) (hc : CS own idx mi 2) (hd : decode bytes pc = .ok (.invokestatic idx, 3)) (hW : (rest.map fun v => v.category).sum ≤ 8) (hM : Rn d mi [a1, a2] M none M1) (k : J (pc + 3) L (rest) M1) : J pc L (a2 :: a1 :: rest) M := j_callS0 (As := [a1, a2]) g hM hc rfl hW hd k
theorem j_cV3r {own : Nat} {bytes : ByteArray} {mL d : Nat} {J : Nat → Lc → List Value → Mm → Prop} {mi : Mi} {idx b : Nat} {rest : List Value} {M M1 : Mm} {pc : Nat} {L : Lc} {a1 a2 a3 : Value} {v : Value} (g : Good own bytes mL (d + 1) J) (hc : CV own idx mi 3) (hcls : mi.2.1.cls = om_own mi.1 ∧ mi.1 < 9) (hb0 : gk b = mi.1) (hd : decode bytes pc = .ok (.invokevirtual idx, 3)) (hW : (rest.map fun v => v.category).sum ≤ 8) (hM : Rn d mi (.ref b :: [a1, a2, a3]) M (some v) M1) (k : J (pc + 3) L (v :: rest) M1) : J pc L (a3 :: a2 :: a1 :: .ref b :: rest) M := j_callV0 (As := [a1, a2, a3]) g hM hc hb0 hcls rfl hW hd k
theorem j_cS3r {own : Nat} {bytes : ByteArray} {mL d : Nat} {J : Nat → Lc → List Value → Mm → Prop} {mi : Mi} {idx : Nat} {rest : List Value} {M M1 : Mm} {pc : Nat} {L : Lc} {a1 a2 a3 : Value} {v : Value} (g : Good own bytes mL (d + 1) J) (hc : CS own idx mi 3) (hd : decode bytes pc = .ok (.invokestatic idx, 3)) (hW : (rest.map fun v => v.category).sum ≤ 8) (hM : Rn d mi [a1, a2, a3] M (some v) M1) (k : J (pc + 3) L (v :: rest) M1) : J pc L (a3 :: a2 :: a1 :: rest) M := j_callS0 (As := [a1, a2, a3]) g hM hc rfl hW hd k
theorem j_cV3v {own : Nat} {bytes : ByteArray} {mL d : Nat} {J : Nat → Lc → List Value → Mm → Prop} {mi : Mi} {idx b : Nat} {rest : List Value} {M M1 : Mm} {pc : Nat} {L : Lc} {a1 a2 a3 : Value} (g : Good own bytes mL (d + 1) J) (hc : CV own idx mi 3) (hcls : mi.2.1.cls = om_own mi.1 ∧ mi.1 < 9) (hb0 : gk b = mi.1) (hd : decode bytes pc = .ok (.invokevirtual idx, 3)) (hW : (rest.map fun v => v.category).sum ≤ 8) (hM : Rn d mi (.ref b :: [a1, a2, a3]) M none M1) (k : J (pc + 3) L (rest) M1) : J pc L (a3 :: a2 :: a1 :: .ref b :: rest) M := j_callV0 (As := [a1, a2, a3]) g hM hc hb0 hcls rfl hW hd k
theorem j_cS3v {own : Nat} {bytes : ByteArray} {mL d : Nat} {J : Nat → Lc → List Value → Mm → Prop} {mi : Mi} {idx : Nat} {rest : List Value} {M M1 : Mm} {pc : Nat} {L : Lc} {a1 a2 a3 : Value} (g : Good own bytes mL (d + 1) J) (hc : CS own idx mi 3) (hd : decode bytes pc = .ok (.invokestatic idx, 3)) (hW : (rest.map fun v => v.category).sum ≤ 8) (hM : Rn d mi [a1, a2, a3] M none M1) (k : J (pc + 3) L (rest) M1) : J pc L (a3 :: a2 :: a1 :: rest) M := j_callS0 (As := [a1, a2, a3]) g hM hc rfl hW hd k
theorem j_cV4r {own : Nat} {bytes : ByteArray} {mL d : Nat} {J : Nat → Lc → List Value → Mm → Prop} {mi : Mi} {idx b : Nat} {rest : List Value} {M M1 : Mm} {pc : Nat} {L : Lc} {a1 a2 a3 a4 : Value} {v : Value} (g : Good own bytes mL (d + 1) J) (hc : CV own idx mi 4) (hcls : mi.2.1.cls = om_own mi.1 ∧ mi.1 < 9) (hb0 : gk b = mi.1) (hd : decode bytes pc = .ok (.invokevirtual idx, 3)) (hW : (rest.map fun v => v.category).sum ≤ 8) (hM : Rn d mi (.ref b :: [a1, a2, a3, a4]) M (some v) M1) (k : J (pc + 3) L (v :: rest) M1) : J pc L (a4 :: a3 :: a2 :: a1 :: .ref b :: rest) M := j_callV0 (As := [a1, a2, a3, a4]) g hM hc hb0 hcls rfl hW hd k
theorem j_cS4r {own : Nat} {bytes : ByteArray} {mL d : Nat} {J : Nat → Lc → List Value → Mm → Prop} {mi : Mi} {idx : Nat} {rest : List Value} {M M1 : Mm} {pc : Nat} {L : Lc} {a1 a2 a3 a4 : Value} {v : Value} (g : Good own bytes mL (d + 1) J) (hc : CS own idx mi 4) (hd : decode bytes pc = .ok (.invokestatic idx, 3)) (hW : (rest.map fun v => v.category).sum ≤ 8) (hM : Rn d mi [a1, a2, a3, a4] M (some v) M1) (k : J (pc + 3) L (v :: rest) M1) : J pc L (a4 :: a3 :: a2 :: a1 :: rest) M := j_callS0 (As := [a1, a2, a3, a4]) g hM hc rfl hW hd k
theorem j_cV4v {own : Nat} {bytes : ByteArray} {mL d : Nat} {J : Nat → Lc → List Value → Mm → Prop} {mi : Mi} {idx b : Nat} {rest : List Value} {M M1 : Mm} {pc : Nat} {L : Lc} {a1 a2 a3 a4 : Value} (g : Good own bytes mL (d + 1) J) (hc : CV own idx mi 4) (hcls : mi.2.1.cls = om_own mi.1 ∧ mi.1 < 9) (hb0 : gk b = mi.1) (hd : decode bytes pc = .ok (.invokevirtual idx, 3)) (hW : (rest.map fun v => v.category).sum ≤ 8) (hM : Rn d mi (.ref b :: [a1, a2, a3, a4]) M none M1) (k : J (pc + 3) L (rest) M1) : J pc L (a4 :: a3 :: a2 :: a1 :: .ref b :: rest) M := j_callV0 (As := [a1, a2, a3, a4]) g hM hc hb0 hcls rfl hW hd k
theorem j_cS4v {own : Nat} {bytes : ByteArray} {mL d : Nat} {J : Nat → Lc → List Value → Mm → Prop} {mi : Mi} {idx : Nat} {rest : List Value} {M M1 : Mm} {pc : Nat} {L : Lc} {a1 a2 a3 a4 : Value} (g : Good own bytes mL (d + 1) J) (hc : CS own idx mi 4) (hd : decode bytes pc = .ok (.invokestatic idx, 3)) (hW : (rest.map fun v => v.category).sum ≤ 8) (hM : Rn d mi [a1, a2, a3, a4] M none M1) (k : J (pc + 3) L (rest) M1) : J pc L (a4 :: a3 :: a2 :: a1 :: rest) M := j_callS0 (As := [a1, a2, a3, a4]) g hM hc rfl hW hd k
theorem j_cV5r {own : Nat} {bytes : ByteArray} {mL d : Nat} {J : Nat → Lc → List Value → Mm → Prop} {mi : Mi} {idx b : Nat} {rest : List Value} {M M1 : Mm} {pc : Nat} {L : Lc} {a1 a2 a3 a4 a5 : Value} {v : Value} (g : Good own bytes mL (d + 1) J) (hc : CV own idx mi 5) (hcls : mi.2.1.cls = om_own mi.1 ∧ mi.1 < 9) (hb0 : gk b = mi.1) (hd : decode bytes pc = .ok (.invokevirtual idx, 3)) (hW : (rest.map fun v => v.category).sum ≤ 8) (hM : Rn d mi (.ref b :: [a1, a2, a3, a4, a5]) M (some v) M1) (k : J (pc + 3) L (v :: rest) M1) : J pc L (a5 :: a4 :: a3 :: a2 :: a1 :: .ref b :: rest) M := j_callV0 (As := [a1, a2, a3, a4, a5]) g hM hc hb0 hcls rfl hW hd k
theorem j_cS5r {own : Nat} {bytes : ByteArray} {mL d : Nat} {J : Nat → Lc → List Value → Mm → Prop} {mi : Mi} {idx : Nat} {rest : List Value} {M M1 : Mm} {pc : Nat} {L : Lc} {a1 a2 a3 a4 a5 : Value} {v : Value} (g : Good own bytes mL (d + 1) J) (hc : CS own idx mi 5) (hd : decode bytes pc = .ok (.invokestatic idx, 3)) (hW : (rest.map fun v => v.category).sum ≤ 8) (hM : Rn d mi [a1, a2, a3, a4, a5] M (some v) M1) (k : J (pc + 3) L (v :: rest) M1) : J pc L (a5 :: a4 :: a3 :: a2 :: a1 :: rest) M := j_callS0 (As := [a1, a2, a3, a4, a5]) g hM hc rfl hW hd k
theorem j_cV5v {own : Nat} {bytes : ByteArray} {mL d : Nat} {J : Nat → Lc → List Value → Mm → Prop} {mi : Mi} {idx b : Nat} {rest : List Value} {M M1 : Mm} {pc : Nat} {L : Lc} {a1 a2 a3 a4 a5 : Value} (g : Good own bytes mL (d + 1) J) (hc : CV own idx mi 5) (hcls : mi.2.1.cls = om_own mi.1 ∧ mi.1 < 9) (hb0 : gk b = mi.1) (hd : decode bytes pc = .ok (.invokevirtual idx, 3)) (hW : (rest.map fun v => v.category).sum ≤ 8) (hM : Rn d mi (.ref b :: [a1, a2, a3, a4, a5]) M none M1) (k : J (pc + 3) L (rest) M1) : J pc L (a5 :: a4 :: a3 :: a2 :: a1 :: .ref b :: rest) M := j_callV0 (As := [a1, a2, a3, a4, a5]) g hM hc hb0 hcls rfl hW hd k
theorem j_cS5v {own : Nat} {bytes : ByteArray} {mL d : Nat} {J : Nat → Lc → List Value → Mm → Prop} {mi : Mi} {idx : Nat} {rest : List Value} {M M1 : Mm} {pc : Nat} {L : Lc} {a1 a2 a3 a4 a5 : Value} (g : Good own bytes mL (d + 1) J) (hc : CS own idx mi 5) (hd : decode bytes pc = .ok (.invokestatic idx, 3)) (hW : (rest.map fun v => v.category).sum ≤ 8) (hM : Rn d mi [a1, a2, a3, a4, a5] M none M1) (k : J (pc + 3) L (rest) M1) : J pc L (a5 :: a4 :: a3 :: a2 :: a1 :: rest) M := j_callS0 (As := [a1, a2, a3, a4, a5]) g hM hc rfl hW hd k
theorem j_cV6r {own : Nat} {bytes : ByteArray} {mL d : Nat} {J : Nat → Lc → List Value → Mm → Prop} {mi : Mi} {idx b : Nat} {rest : List Value} {M M1 : Mm} {pc : Nat} {L : Lc} {a1 a2 a3 a4 a5 a6 : Value} {v : Value} (g : Good own bytes mL (d + 1) J) (hc : CV own idx mi 6) (hcls : mi.2.1.cls = om_own mi.1 ∧ mi.1 < 9) (hb0 : gk b = mi.1) (hd : decode bytes pc = .ok (.invokevirtual idx, 3)) (hW : (rest.map fun v => v.category).sum ≤ 8) (hM : Rn d mi (.ref b :: [a1, a2, a3, a4, a5, a6]) M (some v) M1) (k : J (pc + 3) L (v :: rest) M1) : J pc L (a6 :: a5 :: a4 :: a3 :: a2 :: a1 :: .ref b :: rest) M := j_callV0 (As := [a1, a2, a3, a4, a5, a6]) g hM hc hb0 hcls rfl hW hd k
theorem j_cS6r {own : Nat} {bytes : ByteArray} {mL d : Nat} {J : Nat → Lc → List Value → Mm → Prop} {mi : Mi} {idx : Nat} {rest : List Value} {M M1 : Mm} {pc : Nat} {L : Lc} {a1 a2 a3 a4 a5 a6 : Value} {v : Value} (g : Good own bytes mL (d + 1) J) (hc : CS own idx mi 6) (hd : decode bytes pc = .ok (.invokestatic idx, 3)) (hW : (rest.map fun v => v.category).sum ≤ 8) (hM : Rn d mi [a1, a2, a3, a4, a5, a6] M (some v) M1) (k : J (pc + 3) L (v :: rest) M1) : J pc L (a6 :: a5 :: a4 :: a3 :: a2 :: a1 :: rest) M := j_callS0 (As := [a1, a2, a3, a4, a5, a6]) g hM hc rfl hW hd k
theorem j_cV6v {own : Nat} {bytes : ByteArray} {mL d : Nat} {J : Nat → Lc → List Value → Mm → Prop} {mi : Mi} {idx b : Nat} {rest : List Value} {M M1 : Mm} {pc : Nat} {L : Lc} {a1 a2 a3 a4 a5 a6 : Value} (g : Good own bytes mL (d + 1) J) (hc : CV own idx mi 6) (hcls : mi.2.1.cls = om_own mi.1 ∧ mi.1 < 9) (hb0 : gk b = mi.1) (hd : decode bytes pc = .ok (.invokevirtual idx, 3)) (hW : (rest.map fun v => v.category).sum ≤ 8) (hM : Rn d mi (.ref b :: [a1, a2, a3, a4, a5, a6]) M none M1) (k : J (pc + 3) L (rest) M1) : J pc L (a6 :: a5 :: a4 :: a3 :: a2 :: a1 :: .ref b :: rest) M := j_callV0 (As := [a1, a2, a3, a4, a5, a6]) g hM hc hb0 hcls rfl hW hd k
theorem j_cS6v {own : Nat} {bytes : ByteArray} {mL d : Nat} {J : Nat → Lc → List Value → Mm → Prop} {mi : Mi} {idx : Nat} {rest : List Value} {M M1 : Mm} {pc : Nat} {L : Lc} {a1 a2 a3 a4 a5 a6 : Value} (g : Good own bytes mL (d + 1) J) (hc : CS own idx mi 6) (hd : decode bytes pc = .ok (.invokestatic idx, 3)) (hW : (rest.map fun v => v.category).sum ≤ 8) (hM : Rn d mi [a1, a2, a3, a4, a5, a6] M none M1) (k : J (pc + 3) L (rest) M1) : J pc L (a6 :: a5 :: a4 :: a3 :: a2 :: a1 :: rest) M := j_callS0 (As := [a1, a2, a3, a4, a5, a6]) g hM hc rfl hW hd k
