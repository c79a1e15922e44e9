/-! reads and writes, by kind; sizes as written numbers -/
section JD
variable {own : Nat} {bytes : ByteArray} {mL d : Nat} {J : Nat → Lc → List Value → Mm → Prop} {pc : Nat} {L : Lc} {st : List Value} {M : Mm}
theorem om_fvI {M : Mm} {a ci k : Nat} (h : om_ty ci k = .int ∨ om_ty ci k = .boolean) : om_fv id M a ci k = .int (M.1 a k) := by
  unfold om_fv
  rcases h with h | h <;> rw [h]
theorem j_gI (g : Good own bytes mL d J) {idx ci k a : Nat} (hf : FL own idx ci k) (ht : om_ty ci k = .int ∨ om_ty ci k = .boolean) (hd : decode bytes pc = .ok (.getfield idx, 3)) (ha : gk a = ci) (kk : J (pc + 3) L (.int (M.1 a k) :: st) M) : J pc L (.ref a :: st) M := j_getf g hf ha hd (by rw [om_fvI ht]; exact kk)
theorem j_gJ (g : Good own bytes mL d J) {idx ci k a : Nat} (hf : FL own idx ci k) (ht : om_ty ci k = .long) (hd : decode bytes pc = .ok (.getfield idx, 3)) (ha : gk a = ci) (kk : J (pc + 3) L (.long (M.2 a k) :: st) M) : J pc L (.ref a :: st) M := j_getf g hf ha hd (by unfold om_fv; rw [ht]; exact kk)
def om_isRef : FieldType → Bool
  | .object _ => true
  | .array _ => true
  | _ => false
theorem j_gA (g : Good own bytes mL d J) {idx ci k a b : Nat} (hf : FL own idx ci k) (ht : om_isRef (om_ty ci k) = true) (hd : decode bytes pc = .ok (.getfield idx, 3)) (ha : gk a = ci) (hr : rf a k = b) (kk : J (pc + 3) L (.ref b :: st) M) : J pc L (.ref a :: st) M := j_getf g hf ha hd (by
  have e : om_fv id M a ci k = .ref b := by
    unfold om_fv
    cases h : om_ty ci k <;> (rw [h] at ht; first | (exact absurd ht (by decide)) | (rw [← hr]; rfl))
  rw [e]; exact kk)
theorem j_pI (g : Good own bytes mL d J) {idx ci k a : Nat} {v : Int32} (hf : FL own idx ci k) (hfin : ∀ q, om_cl[ci]? = some q → (q.2.1 k).2.2.2 = false) (ht : om_ty ci k = .int) (hd : decode bytes pc = .ok (.putfield idx, 3)) (ha : gk a = ci) (kk : J (pc + 3) L st (wi M a k v)) : J pc L (.int v :: .ref a :: st) M := j_putI g hf hfin (Or.inl ht) ha hd kk
theorem j_pZ (g : Good own bytes mL d J) {idx ci k a : Nat} {v : Int32} (hf : FL own idx ci k) (hfin : ∀ q, om_cl[ci]? = some q → (q.2.1 k).2.2.2 = false) (ht : om_ty ci k = .boolean) (hd : decode bytes pc = .ok (.putfield idx, 3)) (ha : gk a = ci) (hv : v = 0 ∨ v = 1) (kk : J (pc + 3) L st (wi M a k v)) : J pc L (.int v :: .ref a :: st) M := j_putI g hf hfin (Or.inr ⟨ht, hv⟩) ha hd kk
theorem j_pJ (g : Good own bytes mL d J) {idx ci k a : Nat} {v : Int64} (hf : FL own idx ci k) (hfin : ∀ q, om_cl[ci]? = some q → (q.2.1 k).2.2.2 = false) (ht : om_ty ci k = .long) (hd : decode bytes pc = .ok (.putfield idx, 3)) (ha : gk a = ci) (kk : J (pc + 3) L st (wl M a k v)) : J pc L (.long v :: .ref a :: st) M := j_putJ g hf hfin ht ha hd kk
theorem j_ia (g : Good own bytes mL d J) {a : Nat} {i : Int32} (n : Nat) (hd : decode bytes pc = .ok (.iaload, 1)) (ha : gk a = 10) (hg : gl a = n) (hi : vp_in i n) (kk : J (pc + 1) L (.int (M.1 a i.toNatClampNeg) :: st) M) : J pc L (.int i :: .ref a :: st) M := j_iaload g ha (by rw [hg]; exact hi) hd kk
theorem j_ba (g : Good own bytes mL d J) {a : Nat} {i : Int32} (n : Nat) (hd : decode bytes pc = .ok (.baload, 1)) (ha : gk a = 9) (hg : gl a = n) (hi : vp_in i n) (kk : J (pc + 1) L (.int (M.1 a i.toNatClampNeg) :: st) M) : J pc L (.int i :: .ref a :: st) M := j_baload g ha (by rw [hg]; exact hi) hd kk
theorem j_la (g : Good own bytes mL d J) {a : Nat} {i : Int32} (n : Nat) (hd : decode bytes pc = .ok (.laload, 1)) (ha : gk a = 11) (hg : gl a = n) (hi : vp_in i n) (kk : J (pc + 1) L (.long (M.2 a i.toNatClampNeg) :: st) M) : J pc L (.int i :: .ref a :: st) M := j_laload g ha (by rw [hg]; exact hi) hd kk
theorem j_is (g : Good own bytes mL d J) {a : Nat} {i x : Int32} (n : Nat) (hd : decode bytes pc = .ok (.iastore, 1)) (ha : gk a = 10) (hg : gl a = n) (hi : vp_in i n) (kk : J (pc + 1) L st (wi M a i.toNatClampNeg x)) : J pc L (.int x :: .int i :: .ref a :: st) M := j_iastore g ha (by rw [hg]; exact hi) hd kk
theorem j_bs (g : Good own bytes mL d J) {a : Nat} {i x : Int32} (n : Nat) (hd : decode bytes pc = .ok (.bastore, 1)) (ha : gk a = 9) (hg : gl a = n) (hi : vp_in i n) (kk : J (pc + 1) L st (wi M a i.toNatClampNeg (vp_nar .byte x))) : J pc L (.int x :: .int i :: .ref a :: st) M := j_bastore g ha (by rw [hg]; exact hi) hd kk
theorem j_ls (g : Good own bytes mL d J) {a : Nat} {i : Int32} {x : Int64} (n : Nat) (hd : decode bytes pc = .ok (.lastore, 1)) (ha : gk a = 11) (hg : gl a = n) (hi : vp_in i n) (kk : J (pc + 1) L st (wl M a i.toNatClampNeg x)) : J pc L (.long x :: .int i :: .ref a :: st) M := j_lastore g ha (by rw [hg]; exact hi) hd kk
theorem j_aS (g : Good own bytes mL d J) {a b : Nat} {i : Int32} (n : Nat) (hd : decode bytes pc = .ok (.aaload, 1)) (ha : gk a = 12) (hg : gl a = n) (hi : vp_in i n) (hr : rf a i.toNatClampNeg = b) (kk : J (pc + 1) L (.ref b :: st) M) : J pc L (.int i :: .ref a :: st) M := j_aaloadS g ha (by rw [hg]; exact hi) hd (by rw [hr]; exact kk)
theorem j_aW (g : Good own bytes mL d J) {a b : Nat} {i : Int32} (n : Nat) (hd : decode bytes pc = .ok (.aaload, 1)) (ha : gk a = 13) (hg : gl a = n) (hi : vp_in i n) (hr : rf a i.toNatClampNeg = b) (kk : J (pc + 1) L (.ref b :: st) M) : J pc L (.int i :: .ref a :: st) M := j_aaloadW g ha (by rw [hg]; exact hi) hd (by rw [hr]; exact kk)
theorem j_aR (g : Good own bytes mL d J) {a b : Nat} {i : Int32} (n : Nat) (hd : decode bytes pc = .ok (.aaload, 1)) (ha : gk a = 14) (hg : gl a = n) (hi : vp_in i n) (hr : rf a i.toNatClampNeg = b) (kk : J (pc + 1) L (.ref b :: st) M) : J pc L (.int i :: .ref a :: st) M := j_aaloadR g ha (by rw [hg]; exact hi) hd (by rw [hr]; exact kk)
theorem j_cp (g : Good own bytes mL (d + 1) J) {a b : Nat} (n : Int32) (na nb nn : Nat) {idx : Nat} (hlk : Cond.methodLink (om_own own) idx arraycopyName ∈ BIG) (hd : decode bytes pc = .ok (.invokestatic idx, 3)) (hn0 : ¬ n < 0 ∧ n.toNatClampNeg = nn ∧ nn ≤ na ∧ nn ≤ nb) (hW : (st.map fun v => v.category).sum ≤ 8) (ha : gk a = 10) (hga : gl a = na) (hb' : gk b = 10) (hgb : gl b = nb) (k : J (pc + 3) L st (cpi M a b 0 0 nn)) : J pc L (.int n :: .int 0 :: .ref b :: .int 0 :: .ref a :: st) M := by
  obtain ⟨h1, h2, h3, h4⟩ := hn0
  have z : (0 : Int32).toNatClampNeg = 0 := by decide
  refine j_copy g (by omega) hW hlk ha hb' (by decide) (by decide) h1 (by rw [z, h2, hga]; omega) (by rw [z, h2, hgb]; omega) hd ?_
  rw [z, h2]
  exact k
end JD
/-- Stands, and what is at them -/
def isS (s : Nat) : Prop := s ∈ [1000, 1010, 1020, 1030, 1040, 1050, 1060, 1070, 1080, 1090]
def stF (s : Nat) : Prop := (gk s = 3 ∧ gk (s + 1) = 10 ∧ gk (s + 2) = 10 ∧ gk (s + 3) = 10 ∧ gk (s + 4) = 10) ∧ (gl (s + 1) = 3 ∧ gl (s + 2) = 6 ∧ gl (s + 3) = 6 ∧ gl (s + 4) = 6) ∧ (rf s 0 = s + 1 ∧ rf s 1 = s + 2 ∧ rf s 2 = s + 3 ∧ rf s 3 = s + 4)
theorem isS_F {s : Nat} (h : isS s) : stF s := by
  have key : ∀ s ∈ [1000, 1010, 1020, 1030, 1040, 1050, 1060, 1070, 1080, 1090], stF s := by
    unfold stF
    decide +kernel
  exact key s h
theorem vin_b {i : Int32} {n : Nat} (h : (decide (0 ≤ i) && decide (i.toNatClampNeg < n)) = true) : vp_in i n := by
  simp only [Bool.and_eq_true, decide_eq_true_eq] at h
  intro q
  rcases q with q | q
  · exact absurd h.1 (by rw [Int32.not_le]; exact q)
  · omega
def b2i (p : Prop) [Decidable p] : Int32 := if p then 1 else 0
