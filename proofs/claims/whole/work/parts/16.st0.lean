/-! a byte outside of a sequence -/
def te_sC (C : Nat) : Nat := if C = 11 then 11 else C + 1
def te_sw (C : Nat) (wr : Int32) : Int32 := if C = 11 then wr else 0
def te_sg (ins : Int32) (R C : Nat) (c : Nat → Int32) (v : Int32) : Nat → Int32 := upd (if ins = 0 then c else te_mo c (12 * R + C) (12 * R + 12) 1) (12 * R + C) v
theorem te_sgRg {ins : Int32} {R C m : Nat} {c : Nat → Int32} (h : te_rg c) (hm : m < 1024) : te_rg (te_sg ins R C c (nI m)) := by
  unfold te_sg
  split
  · exact te_rgU h hm
  · exact te_rgU (te_rgMo h _ _ _) hm
theorem te_sign (b P : Nat) : nI b + 128 * nI P = nI (b + 128 * P) := by
  rw [show (128 : Int32) * nI P = nI (128 * P) from pk_mul 128 P, nI_add]
section
variable {R C P T B SR SC SP AR AC AO AB K : Nat} {ins wr ot wt st ma mk se bg mq mn : Int32} {ce ad aq sh kp nu nq : Nat → Int32} {b : Nat}
theorem te_x16 {post : SX → Prop} (hR : R < 6) (hC : C < 12) (hwr : te_b01 wr) (h : post ((nI R), (nI (te_sC C)), (nI P), (nI T), (nI B), ins, wr, ot, (te_sw C wr), (nI SR), (nI SC), (nI SP), (nI AR), (nI AC), (nI AO), (nI AB), (nI K), st, ma, mk, se, (te_sg ins R C ce (nI (b + 128 * P))), ad, sh, kp, nu)) : wX_putSign_16 post (nI b) (nI R) (nI C) (nI P) (nI T) (nI B) ins wr ot wt (nI SR) (nI SC) (nI SP) (nI AR) (nI AC) (nI AO) (nI AB) (nI K) st ma mk se ce ad sh kp nu := by
  unfold wX_putSign_16
  refine nm_r (te_ix R C) ?_
  have G : ∀ c : Nat → Int32, upd c (12 * R + C) (nI (b + 128 * P)) = te_sg ins R C ce (nI (b + 128 * P)) → wX_putSign_56 post (nI b) (nI (12 * R + C)) (nI R) (nI C) (nI P) (nI T) (nI B) ins wr ot 0 (nI SR) (nI SC) (nI SP) (nI AR) (nI AC) (nI AO) (nI AB) (nI K) st ma mk se c ad sh kp nu := by
    intro c ec
    unfold wX_putSign_56
    refine ⟨vp_in_nI (by omega) (by omega), nm_r (e' := te_sg ins R C ce (nI (b + 128 * P))) ?_ ?_⟩
    · rw [nI_clamp (by omega), te_sign]
      exact ec
    · unfold te_sC te_sw at h
      by_cases h11 : C = 11
      · rw [if_pos h11, if_pos h11] at h
        subst h11
        exact br_t rfl ⟨te_nb hwr, te_fb hwr, h⟩
      · rw [if_neg h11, if_neg h11] at h
        exact br_f (te_ne (b := 11) h11 (by omega) (by omega)) (nm_r (nI_1 C) h)
  by_cases h0 : ins = 0
  · refine br_t h0 (G ce ?_)
    unfold te_sg
    rw [if_pos h0]
  · refine br_f h0 ?_
    refine te_xmoveOn (12 * R + C) (12 * R + 12) 1 rfl ?_ rfl (by omega) (by omega) (by omega) (by omega) ?_
    · rw [te_b12]
      exact congrArg nI (by omega)
    · refine G _ ?_
      unfold te_sg
      rw [if_neg h0]
theorem te_y16 {post : SY → Prop} (hR : R < 6) (hC : C < 12) (hwr : te_b01 wr) (h : post ((nI R), (nI (te_sC C)), (nI P), (nI T), (nI B), ins, wr, ot, (te_sw C wr), (nI SR), (nI SC), (nI SP), (nI AR), (nI AC), (nI AO), (nI AB), (nI K), st, bg, mq, mn, (te_sg ins R C ce (nI (b + 128 * P))), sh, aq, kp, nq)) : wY_write_16 post (nI b) (nI R) (nI C) (nI P) (nI T) (nI B) ins wr ot wt (nI SR) (nI SC) (nI SP) (nI AR) (nI AC) (nI AO) (nI AB) (nI K) st bg mq mn ce sh aq kp nq := by
  have G : ∀ c : Nat → Int32, upd c (12 * R + C) (nI (b + 128 * P)) = te_sg ins R C ce (nI (b + 128 * P)) → wY_write_28 post (nI b) (nI R) (nI C) (nI P) (nI T) (nI B) ins wr ot wt (nI SR) (nI SC) (nI SP) (nI AR) (nI AC) (nI AO) (nI AB) (nI K) st bg mq mn c sh aq kp nq := by
    intro c ec
    unfold wY_write_28
    refine ⟨?_, nm_r (e' := te_sg ins R C ce (nI (b + 128 * P))) ?_ ?_⟩
    · rw [te_iy]
      exact vp_in_nI (by omega) (by omega)
    · rw [te_iy, nI_clamp (by omega), te_sign]
      exact ec
    · unfold te_sC te_sw at h
      by_cases h11 : C = 11
      · rw [if_pos h11, if_pos h11] at h
        subst h11
        have J : ∀ z : Int32, te_b01 z → z = wr → wY_write_77 post z (nI R) (nI 11) (nI P) (nI T) (nI B) ins wr ot wt (nI SR) (nI SC) (nI SP) (nI AR) (nI AC) (nI AO) (nI AB) (nI K) st bg mq mn (te_sg ins R 11 ce (nI (b + 128 * P))) sh aq kp nq := by
          intro z hz ez
          subst ez
          exact And.intro (te_nb hz) (And.intro (te_fb hz) (br_t (nI_le (a := 11) (b := 11) (by omega) (by omega)) h))
        exact br_t rfl (br_c (fun z => J 0 te_0 z.symm) (fun z => J 1 te_1 (te_b1 hwr z).symm))
      · rw [if_neg h11, if_neg h11] at h
        refine br_f (te_ne (b := 11) h11 (by omega) (by omega)) ?_
        exact And.intro (te_nb te_0) (And.intro (te_fb te_0) (br_f (nI_ge (b := 11) (by omega) (by omega)) (nm_r (nI_1 C) h)))
  unfold wY_write_16
  by_cases h0 : ins = 0
  · refine br_t h0 (G ce ?_)
    unfold te_sg
    rw [if_pos h0]
  · refine br_f h0 ?_
    refine te_yputIn 1 rfl hR hC (by omega) ?_
    refine G _ ?_
    unfold te_sg
    rw [if_neg h0]
theorem te_x0s {Z : SX} (h1 : 32 ≤ b) (h2 : b ≤ 126) (h : te_To (fun t => wpX_putSign t ((nI R), (nI C), (nI P), (nI T), (nI B), ins, wr, ot, wt, (nI SR), (nI SC), (nI SP), (nI AR), (nI AC), (nI AO), (nI AB), (nI K), (nI 0), ma, mk, se, ce, ad, sh, kp, nu) (nI b)) Z) : te_To (fun t => wpX_take t ((nI R), (nI C), (nI P), (nI T), (nI B), ins, wr, ot, wt, (nI SR), (nI SC), (nI SP), (nI AR), (nI AC), (nI AO), (nI AB), (nI K), (nI 0), ma, mk, se, ce, ad, sh, kp, nu) (nI b)) Z := by
  obtain ⟨z1, z2, z3, z4, z5, z6, z7, z8, z9, z10, z11, z12, z13, z14, z15, z16, z17, z18, z19, z20, z21, z22, z23, z24, z25, z26⟩ := Z
  intro post hz
  refine br_f (te_ne (b := 27) (by omega) (by omega) (by omega)) (br_f (by decide) (br_f (by decide) (br_f (nI_nlt (b := 32) h1 (by omega)) (br_f (nI_nlt (a := 126) h2 (by omega)) (h _ ?_)))))
  exact hz
theorem te_y0in {Z : SY} (hb : b < 128) (h : te_To (fun t => wpY_plain t ((nI R), (nI C), (nI P), (nI T), (nI B), ins, wr, ot, wt, (nI SR), (nI SC), (nI SP), (nI AR), (nI AC), (nI AO), (nI AB), (nI K), (nI 0), bg, mq, mn, ce, sh, aq, kp, nq) (nI b)) Z) : ∀ post : Int32 → SY → Prop, post 1 Z → wpY_feed post ((nI R), (nI C), (nI P), (nI T), (nI B), ins, wr, ot, wt, (nI SR), (nI SC), (nI SP), (nI AR), (nI AC), (nI AO), (nI AB), (nI K), (nI 0), bg, mq, mn, ce, sh, aq, kp, nq) (nI b) := by
  obtain ⟨z1, z2, z3, z4, z5, z6, z7, z8, z9, z10, z11, z12, z13, z14, z15, z16, z17, z18, z19, z20, z21, z22, z23, z24, z25, z26⟩ := Z
  intro post hz
  refine br_f (nI_pos (by omega)) (br_t (nI_le (b := 127) (by omega) (by omega)) (br_t rfl (h _ ?_)))
  exact hz
theorem te_y0s {Z : SY} (h1 : 32 ≤ b) (h2 : b ≤ 126) (h : te_To (fun t => wpY_write t ((nI R), (nI C), (nI P), (nI T), (nI B), ins, wr, ot, wt, (nI SR), (nI SC), (nI SP), (nI AR), (nI AC), (nI AO), (nI AB), (nI K), (nI 0), bg, mq, mn, ce, sh, aq, kp, nq) (nI b)) Z) : te_To (fun t => wpY_plain t ((nI R), (nI C), (nI P), (nI T), (nI B), ins, wr, ot, wt, (nI SR), (nI SC), (nI SP), (nI AR), (nI AC), (nI AO), (nI AB), (nI K), (nI 0), bg, mq, mn, ce, sh, aq, kp, nq) (nI b)) Z := by
  obtain ⟨z1, z2, z3, z4, z5, z6, z7, z8, z9, z10, z11, z12, z13, z14, z15, z16, z17, z18, z19, z20, z21, z22, z23, z24, z25, z26⟩ := Z
  intro post hz
  refine br_f (nI_nlt (b := 32) h1 (by omega)) (br_f (nI_nlt (a := 126) h2 (by omega)) (h _ ?_))
  exact hz
/-- a control byte -/
theorem te_x0c {Z : SX} (hb : b < 128) (h27 : b ≠ 27) (hl : b < 32 ∨ 126 < b) (h : te_To (fun t => wpX_takeControl t ((nI R), (nI C), (nI P), (nI T), (nI B), ins, wr, ot, wt, (nI SR), (nI SC), (nI SP), (nI AR), (nI AC), (nI AO), (nI AB), (nI K), (nI 0), ma, mk, se, ce, ad, sh, kp, nu) (nI b)) Z) : te_To (fun t => wpX_take t ((nI R), (nI C), (nI P), (nI T), (nI B), ins, wr, ot, wt, (nI SR), (nI SC), (nI SP), (nI AR), (nI AC), (nI AO), (nI AB), (nI K), (nI 0), ma, mk, se, ce, ad, sh, kp, nu) (nI b)) Z := by
  obtain ⟨z1, z2, z3, z4, z5, z6, z7, z8, z9, z10, z11, z12, z13, z14, z15, z16, z17, z18, z19, z20, z21, z22, z23, z24, z25, z26⟩ := Z
  intro post hz
  refine br_f (te_ne (b := 27) h27 (by omega) (by omega)) (br_f (by decide) (br_f (by decide) ?_))
  by_cases h32 : b < 32
  · refine br_t (nI_lt (b := 32) h32 (by omega)) ?_
    unfold wX_take_66
    refine h _ ?_
    exact hz
  · refine br_f (nI_nlt (b := 32) (by omega) (by omega)) (br_t (nI_lt (a := 126) (by omega) (by omega)) ?_)
    unfold wX_take_66
    refine h _ ?_
    exact hz
theorem te_y0c {Z : SY} (hb : b < 128) (hl : b < 32 ∨ 126 < b) (h : te_To (fun t => wY_plain_20 t (nI b) (nI R) (nI C) (nI P) (nI T) (nI B) ins wr ot wt (nI SR) (nI SC) (nI SP) (nI AR) (nI AC) (nI AO) (nI AB) (nI K) (nI 0) bg mq mn ce sh aq kp nq) Z) : te_To (fun t => wpY_plain t ((nI R), (nI C), (nI P), (nI T), (nI B), ins, wr, ot, wt, (nI SR), (nI SC), (nI SP), (nI AR), (nI AC), (nI AO), (nI AB), (nI K), (nI 0), bg, mq, mn, ce, sh, aq, kp, nq) (nI b)) Z := by
  intro post hz
  by_cases h32 : b < 32
  · exact br_t (nI_lt (b := 32) h32 (by omega)) (h _ hz)
  · exact br_f (nI_nlt (b := 32) (by omega) (by omega)) (br_t (nI_lt (a := 126) (by omega) (by omega)) (h _ hz))
theorem te_s0s (hA : te_A R C P T B ins wr ot wt SR SC SP AR AC AO AB K) (hF : te_F ot ce ad aq) (hj : ∀ j, 4 ≤ j → nu j = nq j) (h1 : 32 ≤ b) (h2 : b ≤ 126) : te_St ((nI R), (nI C), (nI P), (nI T), (nI B), ins, wr, ot, wt, (nI SR), (nI SC), (nI SP), (nI AR), (nI AC), (nI AO), (nI AB), (nI K), (nI 0), ma, mk, se, ce, ad, sh, kp, nu) ((nI R), (nI C), (nI P), (nI T), (nI B), ins, wr, ot, wt, (nI SR), (nI SC), (nI SP), (nI AR), (nI AC), (nI AO), (nI AB), (nI K), (nI 0), bg, mq, mn, ce, sh, aq, kp, nq) (nI b) := by
  obtain ⟨hR, hC, hP, hTB, hB, hin, hwr, hot, hwt, hsr, hsc, hsp, har, hac, hao, hab, hK⟩ := hA
  obtain ⟨hc, had, hjj, hoo⟩ := hF
  by_cases hw0 : wt = 0
  · refine ⟨((nI R), (nI (te_sC C)), (nI P), (nI T), (nI B), ins, wr, ot, (te_sw C wr), (nI SR), (nI SC), (nI SP), (nI AR), (nI AC), (nI AO), (nI AB), (nI K), (nI 0), ma, mk, se, (te_sg ins R C ce (nI (b + 128 * P))), ad, sh, kp, nu), ((nI R), (nI (te_sC C)), (nI P), (nI T), (nI B), ins, wr, ot, (te_sw C wr), (nI SR), (nI SC), (nI SP), (nI AR), (nI AC), (nI AO), (nI AB), (nI K), (nI 0), bg, mq, mn, (te_sg ins R C ce (nI (b + 128 * P))), sh, aq, kp, nq), ?_, te_x0s h1 h2 ?_, te_y0in (by omega) (te_y0s h1 h2 ?_)⟩
    · have h6 : te_sC C < 12 := by unfold te_sC; split <;> omega
      have h7 : te_b01 (te_sw C wr) := by
        unfold te_sw
        split
        · exact hwr
        · exact te_0
      exact te_mk (S := 0) ⟨hR, h6, hP, hTB, hB, hin, hwr, hot, h7, hsr, hsc, hsp, har, hac, hao, hab, hK⟩ ⟨te_sgRg hc (by omega), had, hjj, hoo⟩ ⟨hj, Or.inl rfl⟩
    · intro post h
      refine br_t hw0 ?_
      exact te_x16 hR hC hwr h
    · intro post h
      refine br_t hw0 ?_
      exact te_y16 hR hC hwr h
  · have hl := te_lfOk (q := te_q ot T) (T := T) (B := B) (R := R) (kp := kp) hK hc
    have hR' := te_lfR6 (B := B) hR
    refine ⟨((nI (te_lfR R B)), (nI (te_sC 0)), (nI P), (nI T), (nI B), ins, wr, ot, (te_sw 0 wr), (nI SR), (nI SC), (nI SP), (nI AR), (nI AC), (nI AO), (nI AB), (nI (te_lfW (te_q ot T) T B R K ce kp).1), (nI 0), ma, mk, se, (te_sg ins (te_lfR R B) 0 (te_lfW (te_q ot T) T B R K ce kp).2.1 (nI (b + 128 * P))), ad, sh, ((te_lfW (te_q ot T) T B R K ce kp).2.2), nu), ((nI (te_lfR R B)), (nI (te_sC 0)), (nI P), (nI T), (nI B), ins, wr, ot, (te_sw 0 wr), (nI SR), (nI SC), (nI SP), (nI AR), (nI AC), (nI AO), (nI AB), (nI (te_lfW (te_q ot T) T B R K ce kp).1), (nI 0), bg, mq, mn, (te_sg ins (te_lfR R B) 0 (te_lfW (te_q ot T) T B R K ce kp).2.1 (nI (b + 128 * P))), sh, aq, ((te_lfW (te_q ot T) T B R K ce kp).2.2), nq), ?_, te_x0s h1 h2 ?_, te_y0in (by omega) (te_y0s h1 h2 ?_)⟩
    · exact te_mk (S := 0) ⟨hR', (by decide), hP, hTB, hB, hin, hwr, hot, te_0, hsr, hsc, hsp, har, hac, hao, hab, hl.1⟩ ⟨te_sgRg hl.2 (by omega), had, hjj, hoo⟩ ⟨hj, Or.inl rfl⟩
    · intro post h
      refine br_f hw0 ?_
      refine te_xlineFeed hTB hB hR hK ?_
      exact te_x16 (C := 0) hR' (by omega) hwr h
    · intro post h
      refine br_f hw0 ?_
      refine te_ylineFeed hTB hB hR hK hc ?_
      exact te_y16 (C := 0) hR' (by omega) hwr h
theorem te_s0_8 (hA : te_A R C P T B ins wr ot wt SR SC SP AR AC AO AB K) (hF : te_F ot ce ad aq) (hj : ∀ j, 4 ≤ j → nu j = nq j) : te_St ((nI R), (nI C), (nI P), (nI T), (nI B), ins, wr, ot, wt, (nI SR), (nI SC), (nI SP), (nI AR), (nI AC), (nI AO), (nI AB), (nI K), (nI 0), ma, mk, se, ce, ad, sh, kp, nu) ((nI R), (nI C), (nI P), (nI T), (nI B), ins, wr, ot, wt, (nI SR), (nI SC), (nI SP), (nI AR), (nI AC), (nI AO), (nI AB), (nI K), (nI 0), bg, mq, mn, ce, sh, aq, kp, nq) 8 := by
  obtain ⟨hR, hC, hP, hTB, hB, hin, hwr, hot, hwt, hsr, hsc, hsp, har, hac, hao, hab, hK⟩ := hA
  obtain ⟨hc, had, hjj, hoo⟩ := hF
  have h6 : C - 1 < 12 := by omega
  refine ⟨((nI R), (nI (C - 1)), (nI P), (nI T), (nI B), ins, wr, ot, 0, (nI SR), (nI SC), (nI SP), (nI AR), (nI AC), (nI AO), (nI AB), (nI K), (nI 0), ma, mk, se, ce, ad, sh, kp, nu), ((nI R), (nI (C - 1)), (nI P), (nI T), (nI B), ins, wr, ot, 0, (nI SR), (nI SC), (nI SP), (nI AR), (nI AC), (nI AO), (nI AB), (nI K), (nI 0), bg, mq, mn, ce, sh, aq, kp, nq), ?_, te_x0c (b := 8) (by omega) (by omega) (by omega) ?_, te_y0in (b := 8) (by omega) (te_y0c (by omega) (by omega) ?_)⟩
  · exact te_mk (S := 0) ⟨hR, h6, hP, hTB, hB, hin, hwr, hot, te_0, hsr, hsc, hsp, har, hac, hao, hab, hK⟩ ⟨hc, had, hjj, hoo⟩ ⟨hj, Or.inl rfl⟩
  · intro post h
    refine br_f (by decide) (br_f (by decide) (br_t rfl ?_))
    refine te_xgreatS C 1 0 rfl rfl (by omega) (by omega) (by omega) ?_
    have e : te_dec C 1 0 = C - 1 := by unfold te_dec; split <;> omega
    rw [e]
    exact h
  · intro post h
    refine br_f (by decide) (br_t rfl ?_)
    unfold wY_plain_58
    refine br_f (by decide) ⟨by decide, nm_e (br_t rfl ?_)⟩
    by_cases h0 : C = 0
    · subst h0
      exact br_t (nI_le (a := 0) (b := 0) (by omega) (by omega)) h
    · exact br_f (nI_nle (by omega) (by omega)) (nm_r (te_ns1 (by omega)) h)
theorem te_s0_9 (hA : te_A R C P T B ins wr ot wt SR SC SP AR AC AO AB K) (hF : te_F ot ce ad aq) (hj : ∀ j, 4 ≤ j → nu j = nq j) : te_St ((nI R), (nI C), (nI P), (nI T), (nI B), ins, wr, ot, wt, (nI SR), (nI SC), (nI SP), (nI AR), (nI AC), (nI AO), (nI AB), (nI K), (nI 0), ma, mk, se, ce, ad, sh, kp, nu) ((nI R), (nI C), (nI P), (nI T), (nI B), ins, wr, ot, wt, (nI SR), (nI SC), (nI SP), (nI AR), (nI AC), (nI AO), (nI AB), (nI K), (nI 0), bg, mq, mn, ce, sh, aq, kp, nq) 9 := by
  obtain ⟨hR, hC, hP, hTB, hB, hin, hwr, hot, hwt, hsr, hsc, hsp, har, hac, hao, hab, hK⟩ := hA
  obtain ⟨hc, had, hjj, hoo⟩ := hF
  have h6 : te_min (4 * (C / 4 + 1)) 11 < 12 := Nat.lt_succ_of_le (te_minLe _ _)
  refine ⟨((nI R), (nI (te_min (4 * (C / 4 + 1)) 11)), (nI P), (nI T), (nI B), ins, wr, ot, 0, (nI SR), (nI SC), (nI SP), (nI AR), (nI AC), (nI AO), (nI AB), (nI K), (nI 0), ma, mk, se, ce, ad, sh, kp, nu), ((nI R), (nI (te_min (4 * (C / 4 + 1)) 11)), (nI P), (nI T), (nI B), ins, wr, ot, 0, (nI SR), (nI SC), (nI SP), (nI AR), (nI AC), (nI AO), (nI AB), (nI K), (nI 0), bg, mq, mn, ce, sh, aq, kp, nq), ?_, te_x0c (b := 9) (by omega) (by omega) (by omega) ?_, te_y0in (b := 9) (by omega) (te_y0c (by omega) (by omega) ?_)⟩
  · exact te_mk (S := 0) ⟨hR, h6, hP, hTB, hB, hin, hwr, hot, te_0, hsr, hsc, hsp, har, hac, hao, hab, hK⟩ ⟨hc, had, hjj, hoo⟩ ⟨hj, Or.inl rfl⟩
  · intro post h
    refine br_f (by decide) (br_f (by decide) (br_f (by decide) (br_t rfl ?_)))
    have e4 : nI C / 4 = nI (C / 4) := pk_div (d := 4) (by omega) (by omega) (by omega)
    refine ⟨by decide, ?_⟩
    refine te_xless (4 * (C / 4 + 1)) 11 ?_ rfl (by omega) (by omega) ?_
    · rw [e4, nI_1, show nI (C / 4 + 1) * 4 = nI ((C / 4 + 1) * 4) from pk_mul _ 4]
      exact congrArg nI (by omega)
    · exact h
  · intro post h
    refine br_f (by decide) (br_f (by decide) (br_t rfl ?_))
    unfold wY_plain_58
    have e4 : nI C / 4 = nI (C / 4) := pk_div (d := 4) (by omega) (by omega) (by omega)
    refine br_f (by decide) ⟨by decide, nm_r (e' := nI (4 * (C / 4 + 1))) ?_ (br_f (by decide) (br_f (by decide) ?_))⟩
    · rw [e4, show nI (C / 4) * 4 = nI (C / 4 * 4) from pk_mul _ 4, show nI (C / 4 * 4) + 4 = nI (C / 4 * 4 + 4) from nI_add _ 4]
      exact congrArg nI (by omega)
    · by_cases h11 : 4 * (C / 4 + 1) ≤ 11
      · have e : te_min (4 * (C / 4 + 1)) 11 = 4 * (C / 4 + 1) := by unfold te_min; split <;> omega
        rw [e] at h
        exact br_t (nI_le (b := 11) h11 (by omega)) h
      · rw [te_minA (by omega)] at h
        exact br_f (nI_ge (a := 11) (by omega) (by omega)) h
theorem te_s0_10 (hA : te_A R C P T B ins wr ot wt SR SC SP AR AC AO AB K) (hF : te_F ot ce ad aq) (hj : ∀ j, 4 ≤ j → nu j = nq j) : te_St ((nI R), (nI C), (nI P), (nI T), (nI B), ins, wr, ot, wt, (nI SR), (nI SC), (nI SP), (nI AR), (nI AC), (nI AO), (nI AB), (nI K), (nI 0), ma, mk, se, ce, ad, sh, kp, nu) ((nI R), (nI C), (nI P), (nI T), (nI B), ins, wr, ot, wt, (nI SR), (nI SC), (nI SP), (nI AR), (nI AC), (nI AO), (nI AB), (nI K), (nI 0), bg, mq, mn, ce, sh, aq, kp, nq) 10 := by
  obtain ⟨hR, hC, hP, hTB, hB, hin, hwr, hot, hwt, hsr, hsc, hsp, har, hac, hao, hab, hK⟩ := hA
  obtain ⟨hc, had, hjj, hoo⟩ := hF
  have hl := te_lfOk (q := te_q ot T) (T := T) (B := B) (R := R) (kp := kp) hK hc
  refine ⟨((nI (te_lfR R B)), (nI C), (nI P), (nI T), (nI B), ins, wr, ot, 0, (nI SR), (nI SC), (nI SP), (nI AR), (nI AC), (nI AO), (nI AB), (nI (te_lfW (te_q ot T) T B R K ce kp).1), (nI 0), ma, mk, se, ((te_lfW (te_q ot T) T B R K ce kp).2.1), ad, sh, ((te_lfW (te_q ot T) T B R K ce kp).2.2), nu), ((nI (te_lfR R B)), (nI C), (nI P), (nI T), (nI B), ins, wr, ot, 0, (nI SR), (nI SC), (nI SP), (nI AR), (nI AC), (nI AO), (nI AB), (nI (te_lfW (te_q ot T) T B R K ce kp).1), (nI 0), bg, mq, mn, ((te_lfW (te_q ot T) T B R K ce kp).2.1), sh, aq, ((te_lfW (te_q ot T) T B R K ce kp).2.2), nq), ?_, te_x0c (b := 10) (by omega) (by omega) (by omega) ?_, te_y0in (b := 10) (by omega) (te_y0c (by omega) (by omega) ?_)⟩
  · exact te_mk (S := 0) ⟨te_lfR6 hR, hC, hP, hTB, hB, hin, hwr, hot, te_0, hsr, hsc, hsp, har, hac, hao, hab, hl.1⟩ ⟨hl.2, had, hjj, hoo⟩ ⟨hj, Or.inl rfl⟩
  · intro post h
    refine br_f (by decide) (br_f (by decide) (br_f (by decide) (br_f (by decide) (br_t rfl ?_))))
    refine te_xlineFeed hTB hB hR hK ?_
    exact h
  · intro post h
    refine br_f (by decide) (br_f (by decide) (br_f (by decide) (br_t rfl ?_)))
    unfold wY_plain_58
    refine br_t rfl ?_
    refine te_ylineFeed hTB hB hR hK hc ?_
    exact h
theorem te_s0_13 (hA : te_A R C P T B ins wr ot wt SR SC SP AR AC AO AB K) (hF : te_F ot ce ad aq) (hj : ∀ j, 4 ≤ j → nu j = nq j) : te_St ((nI R), (nI C), (nI P), (nI T), (nI B), ins, wr, ot, wt, (nI SR), (nI SC), (nI SP), (nI AR), (nI AC), (nI AO), (nI AB), (nI K), (nI 0), ma, mk, se, ce, ad, sh, kp, nu) ((nI R), (nI C), (nI P), (nI T), (nI B), ins, wr, ot, wt, (nI SR), (nI SC), (nI SP), (nI AR), (nI AC), (nI AO), (nI AB), (nI K), (nI 0), bg, mq, mn, ce, sh, aq, kp, nq) 13 := by
  obtain ⟨hR, hC, hP, hTB, hB, hin, hwr, hot, hwt, hsr, hsc, hsp, har, hac, hao, hab, hK⟩ := hA
  obtain ⟨hc, had, hjj, hoo⟩ := hF
  refine ⟨((nI R), 0, (nI P), (nI T), (nI B), ins, wr, ot, 0, (nI SR), (nI SC), (nI SP), (nI AR), (nI AC), (nI AO), (nI AB), (nI K), (nI 0), ma, mk, se, ce, ad, sh, kp, nu), ((nI R), 0, (nI P), (nI T), (nI B), ins, wr, ot, 0, (nI SR), (nI SC), (nI SP), (nI AR), (nI AC), (nI AO), (nI AB), (nI K), (nI 0), bg, mq, mn, ce, sh, aq, kp, nq), ?_, te_x0c (b := 13) (by omega) (by omega) (by omega) ?_, te_y0in (b := 13) (by omega) (te_y0c (by omega) (by omega) ?_)⟩
  · exact te_mk (S := 0) (C := 0) ⟨hR, (by omega), hP, hTB, hB, hin, hwr, hot, te_0, hsr, hsc, hsp, har, hac, hao, hab, hK⟩ ⟨hc, had, hjj, hoo⟩ ⟨hj, Or.inl rfl⟩
  · intro post h
    refine br_f (by decide) (br_f (by decide) (br_f (by decide) (br_f (by decide) (br_f (by decide) (br_f (by decide) (br_f (by decide) (br_t rfl ?_)))))))
    exact h
  · intro post h
    refine br_f (by decide) (br_f (by decide) (br_f (by decide) (br_f (by decide) (br_t rfl ?_))))
    unfold wY_plain_58
    exact br_f (by decide) ⟨by decide, nm_e (br_f (by decide) (br_t rfl h))⟩
theorem te_st0 (hA : te_A R C P T B ins wr ot wt SR SC SP AR AC AO AB K) (hF : te_F ot ce ad aq) (hj : ∀ j, 4 ≤ j → nu j = nq j) (hb : b < 128) : te_St ((nI R), (nI C), (nI P), (nI T), (nI B), ins, wr, ot, wt, (nI SR), (nI SC), (nI SP), (nI AR), (nI AC), (nI AO), (nI AB), (nI K), (nI 0), ma, mk, se, ce, ad, sh, kp, nu) ((nI R), (nI C), (nI P), (nI T), (nI B), ins, wr, ot, wt, (nI SR), (nI SC), (nI SP), (nI AR), (nI AC), (nI AO), (nI AB), (nI K), (nI 0), bg, mq, mn, ce, sh, aq, kp, nq) (nI b) := by
  by_cases h27 : b = 27
  · subst h27
    refine ⟨((nI R), (nI C), (nI P), (nI T), (nI B), ins, wr, ot, wt, (nI SR), (nI SC), (nI SP), (nI AR), (nI AC), (nI AO), (nI AB), (nI K), (nI 1), ma, mk, se, ce, ad, sh, kp, nu), ((nI R), (nI C), (nI P), (nI T), (nI B), ins, wr, ot, wt, (nI SR), (nI SC), (nI SP), (nI AR), (nI AC), (nI AO), (nI AB), (nI K), (nI 1), bg, mq, mn, ce, sh, aq, kp, nq), ?_, ?_, te_y0in (b := 27) (by omega) (te_y0c (by omega) (by omega) ?_)⟩
    · exact te_mk (S := 1) hA hF ⟨hj, Or.inr (Or.inl rfl)⟩
    · exact fun post h => br_t rfl h
    · exact fun post h => br_t rfl h
  by_cases hs : 32 ≤ b ∧ b ≤ 126
  · exact te_s0s hA hF hj hs.1 hs.2
  by_cases h8 : b = 8
  · subst h8
    exact te_s0_8 hA hF hj
  by_cases h9 : b = 9
  · subst h9
    exact te_s0_9 hA hF hj
  by_cases h10 : b = 10
  · subst h10
    exact te_s0_10 hA hF hj
  by_cases h13 : b = 13
  · subst h13
    exact te_s0_13 hA hF hj
  refine ⟨((nI R), (nI C), (nI P), (nI T), (nI B), ins, wr, ot, wt, (nI SR), (nI SC), (nI SP), (nI AR), (nI AC), (nI AO), (nI AB), (nI K), (nI 0), ma, mk, se, ce, ad, sh, kp, nu), ((nI R), (nI C), (nI P), (nI T), (nI B), ins, wr, ot, wt, (nI SR), (nI SC), (nI SP), (nI AR), (nI AC), (nI AO), (nI AB), (nI K), (nI 0), bg, mq, mn, ce, sh, aq, kp, nq), ?_, te_x0c hb h27 (by omega) ?_, te_y0in hb (te_y0c hb (by omega) ?_)⟩
  · exact te_mk (S := 0) hA hF ⟨hj, Or.inl rfl⟩
  · intro post h
    by_cases h7 : b < 8
    · exact br_t (nI_lt (b := 8) h7 (by omega)) h
    refine br_f (nI_nlt (b := 8) (by omega) (by omega)) ?_
    by_cases h14 : 13 < b
    · exact br_t (nI_lt (a := 13) h14 (by omega)) h
    refine br_f (nI_nlt (a := 13) (by omega) (by omega)) ?_
    refine br_f (te_ne (b := 8) h8 (by omega) (by omega)) (br_f (te_ne (b := 9) h9 (by omega) (by omega)) (br_f (te_ne (b := 10) h10 (by omega) (by omega)) ?_))
    exact br_c (fun _ => h) (fun _ => br_c (fun _ => h) (fun _ => br_f (te_ne (b := 13) h13 (by omega) (by omega)) trivial))
  · intro post h
    exact br_f (te_ne (b := 27) h27 (by omega) (by omega)) (br_f (te_ne (b := 8) h8 (by omega) (by omega)) (br_f (te_ne (b := 9) h9 (by omega) (by omega)) (br_f (te_ne (b := 10) h10 (by omega) (by omega)) (br_f (te_ne (b := 13) h13 (by omega) (by omega)) h))))
end
