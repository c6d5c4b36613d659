/-! the byte right after 27 -/
theorem te_zrEq {s t : Nat → Int32} (h : ∀ j, 4 ≤ j → s j = t j) : te_zr t 4 = te_zr s 4 := by
  funext k
  simp only [te_zr]
  by_cases hk : k < 4
  · rw [if_pos hk, if_pos hk]
  · rw [if_neg hk, if_neg hk]
    exact (h k (by omega)).symm
theorem te_zrHi {s t : Nat → Int32} (h : ∀ j, 4 ≤ j → s j = t j) : ∀ j, 4 ≤ j → s j = te_zr t 4 j := by
  intro j hj
  simp only [te_zr]
  rw [if_neg (by omega)]
  exact h j hj
section
variable {R C P T B SR SC SP AR AC AO AB K : Nat} {ins wr ot wt ma mk se bg mq mn : Int32} {ce ad aq sh kp nu nq : Nat → Int32} {b : Nat}
theorem te_x1in {Z : SX} (h27 : b ≠ 27) (hb : b < 128) (h : te_To (fun t => wpX_takeSecond t ((nI R), (nI C), (nI P), (nI T), (nI B), ins, wr, ot, wt, (nI SR), (nI SC), (nI SP), (nI AR), (nI AC), (nI AO), (nI AB), (nI K), (nI 1), ma, mk, se, ce, ad, sh, kp, nu) (nI b)) Z) : te_To (fun t => wpX_take t ((nI R), (nI C), (nI P), (nI T), (nI B), ins, wr, ot, wt, (nI SR), (nI SC), (nI SP), (nI AR), (nI AC), (nI AO), (nI AB), (nI K), (nI 1), ma, mk, se, ce, ad, sh, kp, nu) (nI b)) Z := by
  obtain ⟨z1, z2, z3, z4, z5, z6, z7, z8, z9, z10, z11, z12, z13, z14, z15, z16, z17, z18, z19, z20, z21, z22, z23, z24, z25, z26⟩ := Z
  intro post hz
  refine br_f (te_ne (b := 27) h27 (by omega) (by omega)) (br_t rfl (h _ ?_))
  exact hz
theorem te_ysh_L {post : SY → Prop} {x1 st : Int32} (h : wY_shortSequence_42 post x1 (nI R) (nI C) (nI P) (nI T) (nI B) ins wr ot wt (nI SR) (nI SC) (nI SP) (nI AR) (nI AC) (nI AO) (nI AB) (nI K) st bg mq mn 1 (nI 4) ce sh aq kp (te_zr nq 4)) : ∀ g p : Nat, p + g = 4 → wY_shortSequence_42 post x1 (nI R) (nI C) (nI P) (nI T) (nI B) ins wr ot wt (nI SR) (nI SC) (nI SP) (nI AR) (nI AC) (nI AO) (nI AB) (nI K) st bg mq mn (g + 1) (nI p) ce sh aq kp (te_zr nq p) := by
  intro g
  induction g with
  | zero =>
    intro p hp
    obtain rfl : p = 4 := by omega
    exact h
  | succ g ih =>
    intro p hp
    refine br_f (nI_ge (b := 4) (by omega) (by omega)) ⟨vp_in_nI (by omega) (by omega), nm_r ?_ (nm_r (nI_1 p) (ih (p + 1) (by omega)))⟩
    rw [nI_clamp (by omega)]
    exact te_zrS nq p
/-- z is the next stage -/
theorem te_y1in {z : Int32} {Z : SY} (hb : b < 128) (hz : (b = 91 ∧ z = 2) ∨ (b = 27 ∧ z = 1) ∨ (b ≠ 91 ∧ b ≠ 27 ∧ z = 0)) (h : te_To (fun t => wY_shortSequence_42 t (nI b) (nI R) (nI C) (nI P) (nI T) (nI B) ins wr ot wt (nI SR) (nI SC) (nI SP) (nI AR) (nI AC) (nI AO) (nI AB) (nI K) z 0 0 1 1 (nI 4) ce sh aq kp (te_zr nq 4)) Z) : ∀ post : Int32 → SY → Prop, post 1 Z → wpY_feed post ((nI R), (nI C), (nI P), (nI T), (nI B), ins, wr, ot, wt, (nI SR), (nI SC), (nI SP), (nI AR), (nI AC), (nI AO), (nI AB), (nI K), (nI 1), bg, mq, mn, ce, sh, aq, kp, nq) (nI b) := by
  obtain ⟨z1, z2, z3, z4, z5, z6, z7, z8, z9, z10, z11, z12, z13, z14, z15, z16, z17, z18, z19, z20, z21, z22, z23, z24, z25, z26⟩ := Z
  intro post hp
  refine br_f (nI_pos (by omega)) (br_t (nI_le (b := 127) (by omega) (by omega)) (br_f (by decide) (br_t rfl ?_)))
  have G : wY_shortSequence_22 (fun u => match u with | (a1, a2, a3, a4, a5, a6, a7, a8, a9, a10, a11, a12, a13, a14, a15, a16, a17, a18, a19, a20, a21, a22, a23, a24, a25, a26) => post 1 (a1, a2, a3, a4, a5, a6, a7, a8, a9, a10, a11, a12, a13, a14, a15, a16, a17, a18, a19, a20, a21, a22, a23, a24, a25, a26)) (nI b) z (nI R) (nI C) (nI P) (nI T) (nI B) ins wr ot wt (nI SR) (nI SC) (nI SP) (nI AR) (nI AC) (nI AO) (nI AB) (nI K) (nI 1) bg mq mn ce sh aq kp nq := by
    have H := te_ysh_L (post := fun u : SY => match u with | (a1, a2, a3, a4, a5, a6, a7, a8, a9, a10, a11, a12, a13, a14, a15, a16, a17, a18, a19, a20, a21, a22, a23, a24, a25, a26) => post 1 (a1, a2, a3, a4, a5, a6, a7, a8, a9, a10, a11, a12, a13, a14, a15, a16, a17, a18, a19, a20, a21, a22, a23, a24, a25, a26)) (h _ hp) 4 0 rfl
    rw [te_zr0] at H
    exact Exists.intro _ H
  rcases hz with ⟨h1, rfl⟩ | ⟨h1, rfl⟩ | ⟨h1, h2, rfl⟩
  · exact br_t (congrArg nI h1) G
  · exact br_f (te_ne (b := 91) (by omega) (by omega) (by omega)) (br_t (congrArg nI h1) G)
  · exact br_f (te_ne (b := 91) h1 (by omega) (by omega)) (br_f (te_ne (b := 27) h2 (by omega) (by omega)) G)
theorem te_s1_91 (hA : te_A R C P T B ins wr ot wt SR SC SP AR AC AO AB K) (hF : te_F ot ce ad aq) (hj : ∀ j, 4 ≤ j → nu j = nq j) : te_St ((nI R), (nI C), (nI P), (nI T), (nI B), ins, wr, ot, wt, (nI SR), (nI SC), (nI SP), (nI AR), (nI AC), (nI AO), (nI AB), (nI K), (nI 1), ma, mk, se, ce, ad, sh, kp, nu) ((nI R), (nI C), (nI P), (nI T), (nI B), ins, wr, ot, wt, (nI SR), (nI SC), (nI SP), (nI AR), (nI AC), (nI AO), (nI AB), (nI K), (nI 1), bg, mq, mn, ce, sh, aq, kp, nq) 91 := by
  refine ⟨((nI R), (nI C), (nI P), (nI T), (nI B), ins, wr, ot, wt, (nI SR), (nI SC), (nI SP), (nI AR), (nI AC), (nI AO), (nI AB), (nI K), (nI 2), 1, 0, 0, ce, ad, sh, kp, (te_zr nu 4)), ((nI R), (nI C), (nI P), (nI T), (nI B), ins, wr, ot, wt, (nI SR), (nI SC), (nI SP), (nI AR), (nI AC), (nI AO), (nI AB), (nI K), (nI 2), 0, 0, 1, ce, sh, aq, kp, (te_zr nq 4)), ?_, te_x1in (b := 91) (by omega) (by omega) ?_, te_y1in (b := 91) (by omega) (Or.inl ⟨rfl, rfl⟩) ?_⟩
  · refine te_mk (S := 2) hA hF ⟨?_, Or.inr (Or.inr ⟨rfl, Or.inr ⟨rfl, rfl⟩, te_0, rfl, te_zrEq hj, ⟨0, by omega, rfl, rfl⟩, ?_⟩)⟩
    · intro j _
      rw [te_zrEq hj]
    · intro j hj4
      exact ⟨0, by omega, if_pos hj4⟩
  · intro post h
    unfold wpX_takeSecond
    refine br_f (by decide) (br_f (by decide) (br_f (by decide) (br_f (by decide) (br_f (by decide) (br_t rfl ?_)))))
    refine te_xopen ?_
    exact h
  · intro post h
    exact br_t (nI_le (a := 4) (b := 4) (by omega) (by omega)) (br_f (by decide) (br_f (by decide) (br_f (by decide) (br_f (by decide) (br_f (by decide) (br_f (by decide) h))))))
theorem te_s1_55 (hA : te_A R C P T B ins wr ot wt SR SC SP AR AC AO AB K) (hF : te_F ot ce ad aq) (hj : ∀ j, 4 ≤ j → nu j = nq j) : te_St ((nI R), (nI C), (nI P), (nI T), (nI B), ins, wr, ot, wt, (nI SR), (nI SC), (nI SP), (nI AR), (nI AC), (nI AO), (nI AB), (nI K), (nI 1), ma, mk, se, ce, ad, sh, kp, nu) ((nI R), (nI C), (nI P), (nI T), (nI B), ins, wr, ot, wt, (nI SR), (nI SC), (nI SP), (nI AR), (nI AC), (nI AO), (nI AB), (nI K), (nI 1), bg, mq, mn, ce, sh, aq, kp, nq) 55 := by
  obtain ⟨hR, hC, hP, hTB, hB, hin, hwr, hot, hwt, hsr, hsc, hsp, har, hac, hao, hab, hK⟩ := hA
  obtain ⟨hc, had, hjj, hoo⟩ := hF
  refine ⟨((nI R), (nI C), (nI P), (nI T), (nI B), ins, wr, ot, wt, (nI R), (nI C), (nI P), (nI AR), (nI AC), (nI AO), (nI AB), (nI K), 0, ma, mk, se, ce, ad, sh, kp, nu), ((nI R), (nI C), (nI P), (nI T), (nI B), ins, wr, ot, wt, (nI R), (nI C), (nI P), (nI AR), (nI AC), (nI AO), (nI AB), (nI K), 0, 0, 0, 1, ce, sh, aq, kp, (te_zr nq 4)), ?_, te_x1in (b := 55) (by omega) (by omega) ?_, te_y1in (b := 55) (by omega) (Or.inr (Or.inr ⟨by omega, by omega, rfl⟩)) ?_⟩
  · exact te_mk (S := 0) ⟨hR, hC, hP, hTB, hB, hin, hwr, hot, hwt, hR, hC, hP, har, hac, hao, hab, hK⟩ ⟨hc, had, hjj, hoo⟩ ⟨te_zrHi hj, Or.inl rfl⟩
  · intro post h
    unfold wpX_takeSecond
    refine br_t rfl ?_
    exact h
  · intro post h
    refine br_t (nI_le (a := 4) (b := 4) (by omega) (by omega)) (br_t rfl ?_)
    exact h
theorem te_s1_56 (hA : te_A R C P T B ins wr ot wt SR SC SP AR AC AO AB K) (hF : te_F ot ce ad aq) (hj : ∀ j, 4 ≤ j → nu j = nq j) : te_St ((nI R), (nI C), (nI P), (nI T), (nI B), ins, wr, ot, wt, (nI SR), (nI SC), (nI SP), (nI AR), (nI AC), (nI AO), (nI AB), (nI K), (nI 1), ma, mk, se, ce, ad, sh, kp, nu) ((nI R), (nI C), (nI P), (nI T), (nI B), ins, wr, ot, wt, (nI SR), (nI SC), (nI SP), (nI AR), (nI AC), (nI AO), (nI AB), (nI K), (nI 1), bg, mq, mn, ce, sh, aq, kp, nq) 56 := by
  obtain ⟨hR, hC, hP, hTB, hB, hin, hwr, hot, hwt, hsr, hsc, hsp, har, hac, hao, hab, hK⟩ := hA
  obtain ⟨hc, had, hjj, hoo⟩ := hF
  refine ⟨((nI SR), (nI SC), (nI SP), (nI T), (nI B), ins, wr, ot, 0, (nI SR), (nI SC), (nI SP), (nI AR), (nI AC), (nI AO), (nI AB), (nI K), 0, ma, mk, se, ce, ad, sh, kp, nu), ((nI SR), (nI SC), (nI SP), (nI T), (nI B), ins, wr, ot, 0, (nI SR), (nI SC), (nI SP), (nI AR), (nI AC), (nI AO), (nI AB), (nI K), 0, 0, 0, 1, ce, sh, aq, kp, (te_zr nq 4)), ?_, te_x1in (b := 56) (by omega) (by omega) ?_, te_y1in (b := 56) (by omega) (Or.inr (Or.inr ⟨by omega, by omega, rfl⟩)) ?_⟩
  · exact te_mk (S := 0) ⟨hsr, hsc, hsp, hTB, hB, hin, hwr, hot, te_0, hsr, hsc, hsp, har, hac, hao, hab, hK⟩ ⟨hc, had, hjj, hoo⟩ ⟨te_zrHi hj, Or.inl rfl⟩
  · intro post h
    unfold wpX_takeSecond
    refine br_f (by decide) (br_t rfl ?_)
    exact h
  · intro post h
    refine br_t (nI_le (a := 4) (b := 4) (by omega) (by omega)) (br_f (by decide) (br_t rfl ?_))
    unfold wY_shortSequence_123 wpY_moveShort
    refine br_t rfl ?_
    exact h
theorem te_s1_68 (hA : te_A R C P T B ins wr ot wt SR SC SP AR AC AO AB K) (hF : te_F ot ce ad aq) (hj : ∀ j, 4 ≤ j → nu j = nq j) : te_St ((nI R), (nI C), (nI P), (nI T), (nI B), ins, wr, ot, wt, (nI SR), (nI SC), (nI SP), (nI AR), (nI AC), (nI AO), (nI AB), (nI K), (nI 1), ma, mk, se, ce, ad, sh, kp, nu) ((nI R), (nI C), (nI P), (nI T), (nI B), ins, wr, ot, wt, (nI SR), (nI SC), (nI SP), (nI AR), (nI AC), (nI AO), (nI AB), (nI K), (nI 1), bg, mq, mn, ce, sh, aq, kp, nq) 68 := by
  obtain ⟨hR, hC, hP, hTB, hB, hin, hwr, hot, hwt, hsr, hsc, hsp, har, hac, hao, hab, hK⟩ := hA
  obtain ⟨hc, had, hjj, hoo⟩ := hF
  have hl := te_lfOk (q := te_q ot T) (T := T) (B := B) (R := R) (kp := kp) hK hc
  refine ⟨((nI (te_lfR R B)), (nI C), (nI P), (nI T), (nI B), ins, wr, ot, 0, (nI SR), (nI SC), (nI SP), (nI AR), (nI AC), (nI AO), (nI AB), (nI (te_lfW (te_q ot T) T B R K ce kp).1), 0, ma, mk, se, ((te_lfW (te_q ot T) T B R K ce kp).2.1), ad, sh, ((te_lfW (te_q ot T) T B R K ce kp).2.2), nu), ((nI (te_lfR R B)), (nI C), (nI P), (nI T), (nI B), ins, wr, ot, 0, (nI SR), (nI SC), (nI SP), (nI AR), (nI AC), (nI AO), (nI AB), (nI (te_lfW (te_q ot T) T B R K ce kp).1), 0, 0, 0, 1, ((te_lfW (te_q ot T) T B R K ce kp).2.1), sh, aq, ((te_lfW (te_q ot T) T B R K ce kp).2.2), (te_zr nq 4)), ?_, te_x1in (b := 68) (by omega) (by omega) ?_, te_y1in (b := 68) (by omega) (Or.inr (Or.inr ⟨by omega, by omega, rfl⟩)) ?_⟩
  · exact te_mk (S := 0) ⟨te_lfR6 hR, hC, hP, hTB, hB, hin, hwr, hot, te_0, hsr, hsc, hsp, har, hac, hao, hab, hl.1⟩ ⟨hl.2, had, hjj, hoo⟩ ⟨te_zrHi hj, Or.inl rfl⟩
  · intro post h
    unfold wpX_takeSecond
    refine br_f (by decide) (br_f (by decide) (br_t rfl ?_))
    refine te_xlineFeed hTB hB hR hK ?_
    exact h
  · intro post h
    refine br_t (nI_le (a := 4) (b := 4) (by omega) (by omega)) (br_f (by decide) (br_f (by decide) (br_t rfl ?_)))
    unfold wY_shortSequence_123 wpY_moveShort
    refine br_f (by decide) (br_f (by decide) (br_f (by decide) (br_f (by decide) ?_)))
    unfold wY_moveShort_117
    refine te_ylineFeed hTB hB hR hK hc ?_
    exact h
theorem te_s1_69 (hA : te_A R C P T B ins wr ot wt SR SC SP AR AC AO AB K) (hF : te_F ot ce ad aq) (hj : ∀ j, 4 ≤ j → nu j = nq j) : te_St ((nI R), (nI C), (nI P), (nI T), (nI B), ins, wr, ot, wt, (nI SR), (nI SC), (nI SP), (nI AR), (nI AC), (nI AO), (nI AB), (nI K), (nI 1), ma, mk, se, ce, ad, sh, kp, nu) ((nI R), (nI C), (nI P), (nI T), (nI B), ins, wr, ot, wt, (nI SR), (nI SC), (nI SP), (nI AR), (nI AC), (nI AO), (nI AB), (nI K), (nI 1), bg, mq, mn, ce, sh, aq, kp, nq) 69 := by
  obtain ⟨hR, hC, hP, hTB, hB, hin, hwr, hot, hwt, hsr, hsc, hsp, har, hac, hao, hab, hK⟩ := hA
  obtain ⟨hc, had, hjj, hoo⟩ := hF
  have hl := te_lfOk (q := te_q ot T) (T := T) (B := B) (R := R) (kp := kp) hK hc
  refine ⟨((nI (te_lfR R B)), 0, (nI P), (nI T), (nI B), ins, wr, ot, 0, (nI SR), (nI SC), (nI SP), (nI AR), (nI AC), (nI AO), (nI AB), (nI (te_lfW (te_q ot T) T B R K ce kp).1), 0, ma, mk, se, ((te_lfW (te_q ot T) T B R K ce kp).2.1), ad, sh, ((te_lfW (te_q ot T) T B R K ce kp).2.2), nu), ((nI (te_lfR R B)), 0, (nI P), (nI T), (nI B), ins, wr, ot, 0, (nI SR), (nI SC), (nI SP), (nI AR), (nI AC), (nI AO), (nI AB), (nI (te_lfW (te_q ot T) T B R K ce kp).1), 0, 0, 0, 1, ((te_lfW (te_q ot T) T B R K ce kp).2.1), sh, aq, ((te_lfW (te_q ot T) T B R K ce kp).2.2), (te_zr nq 4)), ?_, te_x1in (b := 69) (by omega) (by omega) ?_, te_y1in (b := 69) (by omega) (Or.inr (Or.inr ⟨by omega, by omega, rfl⟩)) ?_⟩
  · exact te_mk (S := 0) (C := 0) ⟨te_lfR6 hR, (by omega), hP, hTB, hB, hin, hwr, hot, te_0, hsr, hsc, hsp, har, hac, hao, hab, hl.1⟩ ⟨hl.2, had, hjj, hoo⟩ ⟨te_zrHi hj, Or.inl rfl⟩
  · intro post h
    unfold wpX_takeSecond
    refine br_f (by decide) (br_f (by decide) (br_f (by decide) (br_t rfl ?_)))
    refine te_xlineFeed hTB hB hR hK ?_
    exact h
  · intro post h
    refine br_t (nI_le (a := 4) (b := 4) (by omega) (by omega)) (br_f (by decide) (br_f (by decide) (br_f (by decide) (br_t rfl ?_))))
    unfold wY_shortSequence_123 wpY_moveShort
    refine br_f (by decide) (br_f (by decide) (br_f (by decide) (br_t rfl ?_)))
    unfold wY_moveShort_117
    refine te_ylineFeed hTB hB hR hK hc ?_
    exact h
theorem te_s1_77 (hA : te_A R C P T B ins wr ot wt SR SC SP AR AC AO AB K) (hF : te_F ot ce ad aq) (hj : ∀ j, 4 ≤ j → nu j = nq j) : te_St ((nI R), (nI C), (nI P), (nI T), (nI B), ins, wr, ot, wt, (nI SR), (nI SC), (nI SP), (nI AR), (nI AC), (nI AO), (nI AB), (nI K), (nI 1), ma, mk, se, ce, ad, sh, kp, nu) ((nI R), (nI C), (nI P), (nI T), (nI B), ins, wr, ot, wt, (nI SR), (nI SC), (nI SP), (nI AR), (nI AC), (nI AO), (nI AB), (nI K), (nI 1), bg, mq, mn, ce, sh, aq, kp, nq) 77 := by
  obtain ⟨hR, hC, hP, hTB, hB, hin, hwr, hot, hwt, hsr, hsc, hsp, har, hac, hao, hab, hK⟩ := hA
  obtain ⟨hc, had, hjj, hoo⟩ := hF
  have h6 : te_rlR R T < 6 := by unfold te_rlR; split <;> omega
  have hg : te_rg (te_rlC R T B ce) := by
    unfold te_rlC
    split
    · exact te_rgMo hc _ _ _
    · exact hc
  refine ⟨((nI (te_rlR R T)), (nI C), (nI P), (nI T), (nI B), ins, wr, ot, 0, (nI SR), (nI SC), (nI SP), (nI AR), (nI AC), (nI AO), (nI AB), (nI K), 0, ma, mk, se, (te_rlC R T B ce), ad, sh, kp, nu), ((nI (te_rlR R T)), (nI C), (nI P), (nI T), (nI B), ins, wr, ot, 0, (nI SR), (nI SC), (nI SP), (nI AR), (nI AC), (nI AO), (nI AB), (nI K), 0, 0, 0, 1, (te_rlC R T B ce), sh, aq, kp, (te_zr nq 4)), ?_, te_x1in (b := 77) (by omega) (by omega) ?_, te_y1in (b := 77) (by omega) (Or.inr (Or.inr ⟨by omega, by omega, rfl⟩)) ?_⟩
  · exact te_mk (S := 0) ⟨h6, hC, hP, hTB, hB, hin, hwr, hot, te_0, hsr, hsc, hsp, har, hac, hao, hab, hK⟩ ⟨hg, had, hjj, hoo⟩ ⟨te_zrHi hj, Or.inl rfl⟩
  · intro post h
    unfold wpX_takeSecond
    refine br_f (by decide) (br_f (by decide) (br_f (by decide) (br_f (by decide) (br_t rfl ?_))))
    refine te_xreverse hTB hB hR ?_
    exact h
  · intro post h
    refine br_t (nI_le (a := 4) (b := 4) (by omega) (by omega)) (br_f (by decide) (br_f (by decide) (br_f (by decide) (br_f (by decide) (br_t rfl ?_)))))
    unfold wY_shortSequence_123 wpY_moveShort
    refine br_f (by decide) (br_t rfl ?_)
    by_cases h1 : R = T
    · have e1 : te_rlR R T = R := if_pos h1
      have e2 : te_rlC R T B ce = te_mo ce (12 * T) (12 * (B + 1)) 12 := if_pos h1
      rw [e1, e2] at h
      refine br_t (congrArg nI h1) ?_
      refine te_yrowsDown T B rfl rfl hTB hB ?_
      exact h
    · have e1 : te_rlR R T = R - 1 := if_neg h1
      have e2 : te_rlC R T B ce = ce := if_neg h1
      rw [e1, e2] at h
      refine br_f (te_ne h1 (by omega) (by omega)) ?_
      by_cases h0 : R = 0
      · subst h0
        exact br_t (nI_le (a := 0) (b := 0) (by omega) (by omega)) h
      · exact br_f (nI_nle (by omega) (by omega)) (nm_r (te_ns1 (by omega)) h)
theorem te_s1_99 (hA : te_A R C P T B ins wr ot wt SR SC SP AR AC AO AB K) (hF : te_F ot ce ad aq) (hj : ∀ j, 4 ≤ j → nu j = nq j) : te_St ((nI R), (nI C), (nI P), (nI T), (nI B), ins, wr, ot, wt, (nI SR), (nI SC), (nI SP), (nI AR), (nI AC), (nI AO), (nI AB), (nI K), (nI 1), ma, mk, se, ce, ad, sh, kp, nu) ((nI R), (nI C), (nI P), (nI T), (nI B), ins, wr, ot, wt, (nI SR), (nI SC), (nI SP), (nI AR), (nI AC), (nI AO), (nI AB), (nI K), (nI 1), bg, mq, mn, ce, sh, aq, kp, nq) 99 := by
  obtain ⟨hR, hC, hP, hTB, hB, hin, hwr, hot, hwt, hsr, hsc, hsp, har, hac, hao, hab, hK⟩ := hA
  obtain ⟨hc, had, hjj, hoo⟩ := hF
  refine ⟨(0, 0, 0, 0, 5, 0, 1, 0, 0, 0, 0, 0, (nI AR), (nI AC), (nI AO), (nI AB), 0, 0, ma, mk, se, (te_cl ce 0 72), ad, sh, kp, nu), (0, 0, 0, 0, 5, 0, 1, 0, 0, 0, 0, 0, (nI AR), (nI AC), (nI AO), (nI AB), 0, 0, 0, 0, 1, (te_cl ce 0 72), sh, aq, kp, (te_zr nq 4)), ?_, te_x1in (b := 99) (by omega) (by omega) ?_, te_y1in (b := 99) (by omega) (Or.inr (Or.inr ⟨by omega, by omega, rfl⟩)) ?_⟩
  · exact te_mk (S := 0) (R := 0) (C := 0) (P := 0) (T := 0) (B := 5) (SR := 0) (SC := 0) (SP := 0) (K := 0) ⟨(by omega), (by omega), (by omega), (by omega), (by omega), te_0, te_1, te_0, te_0, (by omega), (by omega), (by omega), har, hac, hao, hab, (by omega)⟩ ⟨te_rgCl hc _ _, had, hjj, Or.inl rfl⟩ ⟨te_zrHi hj, Or.inl rfl⟩
  · intro post h
    unfold wpX_takeSecond
    refine br_f (by decide) (br_f (by decide) (br_f (by decide) (br_f (by decide) (br_f (by decide) (br_f (by decide) (br_t rfl ?_))))))
    refine te_xstart ?_
    exact h
  · intro post h
    refine br_t (nI_le (a := 4) (b := 4) (by omega) (by omega)) (br_f (by decide) (br_f (by decide) (br_f (by decide) (br_f (by decide) (br_f (by decide) (br_t rfl ?_))))))
    unfold wY_shortSequence_123 wpY_moveShort
    refine br_f (by decide) (br_f (by decide) (br_t rfl ?_))
    refine te_yrenew ?_
    exact h
theorem te_st1 (hA : te_A R C P T B ins wr ot wt SR SC SP AR AC AO AB K) (hF : te_F ot ce ad aq) (hj : ∀ j, 4 ≤ j → nu j = nq j) (hb : b < 128) : te_St ((nI R), (nI C), (nI P), (nI T), (nI B), ins, wr, ot, wt, (nI SR), (nI SC), (nI SP), (nI AR), (nI AC), (nI AO), (nI AB), (nI K), (nI 1), ma, mk, se, ce, ad, sh, kp, nu) ((nI R), (nI C), (nI P), (nI T), (nI B), ins, wr, ot, wt, (nI SR), (nI SC), (nI SP), (nI AR), (nI AC), (nI AO), (nI AB), (nI K), (nI 1), bg, mq, mn, ce, sh, aq, kp, nq) (nI b) := by
  by_cases h27 : b = 27
  · subst h27
    refine ⟨((nI R), (nI C), (nI P), (nI T), (nI B), ins, wr, ot, wt, (nI SR), (nI SC), (nI SP), (nI AR), (nI AC), (nI AO), (nI AB), (nI K), (nI 1), ma, mk, se, ce, ad, sh, kp, nu), ((nI R), (nI C), (nI P), (nI T), (nI B), ins, wr, ot, wt, (nI SR), (nI SC), (nI SP), (nI AR), (nI AC), (nI AO), (nI AB), (nI K), (nI 1), 0, 0, 1, ce, sh, aq, kp, (te_zr nq 4)), ?_, ?_, te_y1in (b := 27) (by omega) (Or.inr (Or.inl ⟨rfl, rfl⟩)) ?_⟩
    · exact te_mk (S := 1) hA hF ⟨te_zrHi hj, Or.inr (Or.inl rfl)⟩
    · exact fun post h => br_t rfl h
    · intro post h
      exact br_t (nI_le (a := 4) (b := 4) (by omega) (by omega)) (br_f (by decide) (br_f (by decide) (br_f (by decide) (br_f (by decide) (br_f (by decide) (br_f (by decide) h))))))
  by_cases h91 : b = 91
  · subst h91
    exact te_s1_91 hA hF hj
  by_cases h55 : b = 55
  · subst h55
    exact te_s1_55 hA hF hj
  by_cases h56 : b = 56
  · subst h56
    exact te_s1_56 hA hF hj
  by_cases h68 : b = 68
  · subst h68
    exact te_s1_68 hA hF hj
  by_cases h69 : b = 69
  · subst h69
    exact te_s1_69 hA hF hj
  by_cases h77 : b = 77
  · subst h77
    exact te_s1_77 hA hF hj
  by_cases h99 : b = 99
  · subst h99
    exact te_s1_99 hA hF hj
  have g91 : ¬ nI b = 91 := te_ne (b := 91) h91 (by omega) (by omega)
  have g55 : ¬ nI b = 55 := te_ne (b := 55) h55 (by omega) (by omega)
  have g56 : ¬ nI b = 56 := te_ne (b := 56) h56 (by omega) (by omega)
  have g68 : ¬ nI b = 68 := te_ne (b := 68) h68 (by omega) (by omega)
  have g69 : ¬ nI b = 69 := te_ne (b := 69) h69 (by omega) (by omega)
  have g77 : ¬ nI b = 77 := te_ne (b := 77) h77 (by omega) (by omega)
  have g99 : ¬ nI b = 99 := te_ne (b := 99) h99 (by omega) (by omega)
  refine ⟨((nI R), (nI C), (nI P), (nI T), (nI B), ins, wr, ot, wt, (nI SR), (nI SC), (nI SP), (nI AR), (nI AC), (nI AO), (nI AB), (nI K), 0, ma, mk, se, ce, ad, sh, kp, nu), ((nI R), (nI C), (nI P), (nI T), (nI B), ins, wr, ot, wt, (nI SR), (nI SC), (nI SP), (nI AR), (nI AC), (nI AO), (nI AB), (nI K), 0, 0, 0, 1, ce, sh, aq, kp, (te_zr nq 4)), ?_, te_x1in h27 hb ?_, te_y1in hb (Or.inr (Or.inr ⟨h91, h27, rfl⟩)) ?_⟩
  · exact te_mk (S := 0) hA hF ⟨te_zrHi hj, Or.inl rfl⟩
  · intro post h
    exact br_f g55 (br_f g56 (br_f g68 (br_f g69 (br_f g77 (br_f g91 (br_f g99 h))))))
  · intro post h
    exact br_t (nI_le (a := 4) (b := 4) (by omega) (by omega)) (br_f g55 (br_f g56 (br_f g68 (br_f g69 (br_f g77 (br_f g99 h))))))
end
