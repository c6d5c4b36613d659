/-! the reference: which way a last byte goes -/
def te_To {σ : Type} (W : (σ → Prop) → Prop) (z : σ) : Prop := ∀ post : σ → Prop, post z → W post
section
variable {R C P T B SR SC SP AR AC AO AB K : Nat} {ins wr ot wt bg mq mn : Int32} {ce aq sh kp nq : Nat → Int32} {p q n : Nat} {Z : SY}
theorem te_yk65 (hw : te_b01 wt) (hq : q < 1000) (h : te_To (fun t => wpY_move t ((nI R), (nI C), (nI P), (nI T), (nI B), ins, wr, ot, 0, (nI SR), (nI SC), (nI SP), (nI AR), (nI AC), (nI AO), (nI AB), (nI K), 0, bg, 0, mn, ce, sh, aq, kp, nq) 65 (nI n) (nI (te_max q 1))) Z) : te_To (fun t => wpY_known t ((nI R), (nI C), (nI P), (nI T), (nI B), ins, wr, ot, wt, (nI SR), (nI SC), (nI SP), (nI AR), (nI AC), (nI AO), (nI AB), (nI K), 0, bg, 0, mn, ce, sh, aq, kp, nq) 65 (nI p) (nI q) (nI n)) Z := by
  obtain ⟨z1, z2, z3, z4, z5, z6, z7, z8, z9, z10, z11, z12, z13, z14, z15, z16, z17, z18, z19, z20, z21, z22, z23, z24, z25, z26⟩ := Z
  intro post hz
  have J : wY_known_138 post 65 (nI p) (nI q) (nI n) 1 0 0 (nI R) (nI C) (nI P) (nI T) (nI B) ins wr ot wt (nI SR) (nI SC) (nI SP) (nI AR) (nI AC) (nI AO) (nI AB) (nI K) 0 bg 0 mn ce sh aq kp nq := by
    refine And.intro (te_nb te_0) (And.intro (te_fb te_0) (br_f te_10 ?_))
    unfold te_max at h
    by_cases h0 : q = 0
    · subst h0
      rw [if_pos (by omega)] at h
      refine br_t nI_0 (h _ ?_)
      exact hz
    · by_cases h1 : q ≤ 1
      · obtain rfl : q = 1 := by omega
        rw [if_pos (by omega)] at h
        refine br_f (by decide) (h _ ?_)
        exact hz
      · rw [if_neg h1] at h
        refine br_f (nI_ne0 (by omega) (by omega)) (h _ ?_)
        exact hz
  exact br_f (by decide) (br_t (by decide) (br_f (by decide) (br_f (by decide) (br_f (by decide) (br_f (by decide) (br_f (by decide) (br_f (by decide) (br_f (by decide) (br_f (by decide) (br_f (by decide) (br_f (by decide) (br_c (fun _ => J) (fun _ => br_f te_10 J)))))))))))))
theorem te_yk66 (hw : te_b01 wt) (hq : q < 1000) (h : te_To (fun t => wpY_move t ((nI R), (nI C), (nI P), (nI T), (nI B), ins, wr, ot, 0, (nI SR), (nI SC), (nI SP), (nI AR), (nI AC), (nI AO), (nI AB), (nI K), 0, bg, 0, mn, ce, sh, aq, kp, nq) 66 (nI n) (nI (te_max q 1))) Z) : te_To (fun t => wpY_known t ((nI R), (nI C), (nI P), (nI T), (nI B), ins, wr, ot, wt, (nI SR), (nI SC), (nI SP), (nI AR), (nI AC), (nI AO), (nI AB), (nI K), 0, bg, 0, mn, ce, sh, aq, kp, nq) 66 (nI p) (nI q) (nI n)) Z := by
  obtain ⟨z1, z2, z3, z4, z5, z6, z7, z8, z9, z10, z11, z12, z13, z14, z15, z16, z17, z18, z19, z20, z21, z22, z23, z24, z25, z26⟩ := Z
  intro post hz
  have J : wY_known_138 post 66 (nI p) (nI q) (nI n) 1 0 0 (nI R) (nI C) (nI P) (nI T) (nI B) ins wr ot wt (nI SR) (nI SC) (nI SP) (nI AR) (nI AC) (nI AO) (nI AB) (nI K) 0 bg 0 mn ce sh aq kp nq := by
    refine And.intro (te_nb te_0) (And.intro (te_fb te_0) (br_f te_10 ?_))
    unfold te_max at h
    by_cases h0 : q = 0
    · subst h0
      rw [if_pos (by omega)] at h
      refine br_t nI_0 (h _ ?_)
      exact hz
    · by_cases h1 : q ≤ 1
      · obtain rfl : q = 1 := by omega
        rw [if_pos (by omega)] at h
        refine br_f (by decide) (h _ ?_)
        exact hz
      · rw [if_neg h1] at h
        refine br_f (nI_ne0 (by omega) (by omega)) (h _ ?_)
        exact hz
  exact br_f (by decide) (br_t (by decide) (br_f (by decide) (br_f (by decide) (br_f (by decide) (br_f (by decide) (br_f (by decide) (br_f (by decide) (br_f (by decide) (br_f (by decide) (br_f (by decide) (br_f (by decide) (br_c (fun _ => J) (fun _ => br_f te_10 J)))))))))))))
theorem te_yk67 (hw : te_b01 wt) (hq : q < 1000) (h : te_To (fun t => wpY_move t ((nI R), (nI C), (nI P), (nI T), (nI B), ins, wr, ot, 0, (nI SR), (nI SC), (nI SP), (nI AR), (nI AC), (nI AO), (nI AB), (nI K), 0, bg, 0, mn, ce, sh, aq, kp, nq) 67 (nI n) (nI (te_max q 1))) Z) : te_To (fun t => wpY_known t ((nI R), (nI C), (nI P), (nI T), (nI B), ins, wr, ot, wt, (nI SR), (nI SC), (nI SP), (nI AR), (nI AC), (nI AO), (nI AB), (nI K), 0, bg, 0, mn, ce, sh, aq, kp, nq) 67 (nI p) (nI q) (nI n)) Z := by
  obtain ⟨z1, z2, z3, z4, z5, z6, z7, z8, z9, z10, z11, z12, z13, z14, z15, z16, z17, z18, z19, z20, z21, z22, z23, z24, z25, z26⟩ := Z
  intro post hz
  have J : wY_known_138 post 67 (nI p) (nI q) (nI n) 1 0 0 (nI R) (nI C) (nI P) (nI T) (nI B) ins wr ot wt (nI SR) (nI SC) (nI SP) (nI AR) (nI AC) (nI AO) (nI AB) (nI K) 0 bg 0 mn ce sh aq kp nq := by
    refine And.intro (te_nb te_0) (And.intro (te_fb te_0) (br_f te_10 ?_))
    unfold te_max at h
    by_cases h0 : q = 0
    · subst h0
      rw [if_pos (by omega)] at h
      refine br_t nI_0 (h _ ?_)
      exact hz
    · by_cases h1 : q ≤ 1
      · obtain rfl : q = 1 := by omega
        rw [if_pos (by omega)] at h
        refine br_f (by decide) (h _ ?_)
        exact hz
      · rw [if_neg h1] at h
        refine br_f (nI_ne0 (by omega) (by omega)) (h _ ?_)
        exact hz
  exact br_f (by decide) (br_t (by decide) (br_f (by decide) (br_f (by decide) (br_f (by decide) (br_f (by decide) (br_f (by decide) (br_f (by decide) (br_f (by decide) (br_f (by decide) (br_f (by decide) (br_f (by decide) (br_c (fun _ => J) (fun _ => br_f te_10 J)))))))))))))
theorem te_yk68 (hw : te_b01 wt) (hq : q < 1000) (h : te_To (fun t => wpY_move t ((nI R), (nI C), (nI P), (nI T), (nI B), ins, wr, ot, 0, (nI SR), (nI SC), (nI SP), (nI AR), (nI AC), (nI AO), (nI AB), (nI K), 0, bg, 0, mn, ce, sh, aq, kp, nq) 68 (nI n) (nI (te_max q 1))) Z) : te_To (fun t => wpY_known t ((nI R), (nI C), (nI P), (nI T), (nI B), ins, wr, ot, wt, (nI SR), (nI SC), (nI SP), (nI AR), (nI AC), (nI AO), (nI AB), (nI K), 0, bg, 0, mn, ce, sh, aq, kp, nq) 68 (nI p) (nI q) (nI n)) Z := by
  obtain ⟨z1, z2, z3, z4, z5, z6, z7, z8, z9, z10, z11, z12, z13, z14, z15, z16, z17, z18, z19, z20, z21, z22, z23, z24, z25, z26⟩ := Z
  intro post hz
  have J : wY_known_138 post 68 (nI p) (nI q) (nI n) 1 0 0 (nI R) (nI C) (nI P) (nI T) (nI B) ins wr ot wt (nI SR) (nI SC) (nI SP) (nI AR) (nI AC) (nI AO) (nI AB) (nI K) 0 bg 0 mn ce sh aq kp nq := by
    refine And.intro (te_nb te_0) (And.intro (te_fb te_0) (br_f te_10 ?_))
    unfold te_max at h
    by_cases h0 : q = 0
    · subst h0
      rw [if_pos (by omega)] at h
      refine br_t nI_0 (h _ ?_)
      exact hz
    · by_cases h1 : q ≤ 1
      · obtain rfl : q = 1 := by omega
        rw [if_pos (by omega)] at h
        refine br_f (by decide) (h _ ?_)
        exact hz
      · rw [if_neg h1] at h
        refine br_f (nI_ne0 (by omega) (by omega)) (h _ ?_)
        exact hz
  exact br_f (by decide) (br_t (by decide) (br_f (by decide) (br_f (by decide) (br_f (by decide) (br_f (by decide) (br_f (by decide) (br_f (by decide) (br_f (by decide) (br_f (by decide) (br_f (by decide) (br_f (by decide) (br_c (fun _ => J) (fun _ => br_f te_10 J)))))))))))))
theorem te_yk71 (hw : te_b01 wt) (hq : q < 1000) (h : te_To (fun t => wpY_move t ((nI R), (nI C), (nI P), (nI T), (nI B), ins, wr, ot, 0, (nI SR), (nI SC), (nI SP), (nI AR), (nI AC), (nI AO), (nI AB), (nI K), 0, bg, 0, mn, ce, sh, aq, kp, nq) 71 (nI n) (nI (te_max q 1))) Z) : te_To (fun t => wpY_known t ((nI R), (nI C), (nI P), (nI T), (nI B), ins, wr, ot, wt, (nI SR), (nI SC), (nI SP), (nI AR), (nI AC), (nI AO), (nI AB), (nI K), 0, bg, 0, mn, ce, sh, aq, kp, nq) 71 (nI p) (nI q) (nI n)) Z := by
  obtain ⟨z1, z2, z3, z4, z5, z6, z7, z8, z9, z10, z11, z12, z13, z14, z15, z16, z17, z18, z19, z20, z21, z22, z23, z24, z25, z26⟩ := Z
  intro post hz
  have J : wY_known_138 post 71 (nI p) (nI q) (nI n) 1 0 0 (nI R) (nI C) (nI P) (nI T) (nI B) ins wr ot wt (nI SR) (nI SC) (nI SP) (nI AR) (nI AC) (nI AO) (nI AB) (nI K) 0 bg 0 mn ce sh aq kp nq := by
    refine And.intro (te_nb te_0) (And.intro (te_fb te_0) (br_f te_10 ?_))
    unfold te_max at h
    by_cases h0 : q = 0
    · subst h0
      rw [if_pos (by omega)] at h
      refine br_t nI_0 (h _ ?_)
      exact hz
    · by_cases h1 : q ≤ 1
      · obtain rfl : q = 1 := by omega
        rw [if_pos (by omega)] at h
        refine br_f (by decide) (h _ ?_)
        exact hz
      · rw [if_neg h1] at h
        refine br_f (nI_ne0 (by omega) (by omega)) (h _ ?_)
        exact hz
  exact br_f (by decide) (br_f (by decide) (br_t (by decide) (br_f (by decide) (br_f (by decide) (br_f (by decide) (br_f (by decide) (br_f (by decide) (br_f (by decide) (br_f (by decide) (br_f (by decide) (br_f (by decide) (br_f (by decide) (br_c (fun _ => J) (fun _ => br_f te_10 J))))))))))))))
theorem te_yk72 (hw : te_b01 wt) (hq : q < 1000) (h : te_To (fun t => wpY_move t ((nI R), (nI C), (nI P), (nI T), (nI B), ins, wr, ot, 0, (nI SR), (nI SC), (nI SP), (nI AR), (nI AC), (nI AO), (nI AB), (nI K), 0, bg, 0, mn, ce, sh, aq, kp, nq) 72 (nI n) (nI (te_max q 1))) Z) : te_To (fun t => wpY_known t ((nI R), (nI C), (nI P), (nI T), (nI B), ins, wr, ot, wt, (nI SR), (nI SC), (nI SP), (nI AR), (nI AC), (nI AO), (nI AB), (nI K), 0, bg, 0, mn, ce, sh, aq, kp, nq) 72 (nI p) (nI q) (nI n)) Z := by
  obtain ⟨z1, z2, z3, z4, z5, z6, z7, z8, z9, z10, z11, z12, z13, z14, z15, z16, z17, z18, z19, z20, z21, z22, z23, z24, z25, z26⟩ := Z
  intro post hz
  have J : wY_known_138 post 72 (nI p) (nI q) (nI n) 1 0 0 (nI R) (nI C) (nI P) (nI T) (nI B) ins wr ot wt (nI SR) (nI SC) (nI SP) (nI AR) (nI AC) (nI AO) (nI AB) (nI K) 0 bg 0 mn ce sh aq kp nq := by
    refine And.intro (te_nb te_0) (And.intro (te_fb te_0) (br_f te_10 ?_))
    unfold te_max at h
    by_cases h0 : q = 0
    · subst h0
      rw [if_pos (by omega)] at h
      refine br_t nI_0 (h _ ?_)
      exact hz
    · by_cases h1 : q ≤ 1
      · obtain rfl : q = 1 := by omega
        rw [if_pos (by omega)] at h
        refine br_f (by decide) (h _ ?_)
        exact hz
      · rw [if_neg h1] at h
        refine br_f (nI_ne0 (by omega) (by omega)) (h _ ?_)
        exact hz
  exact br_f (by decide) (br_f (by decide) (br_f (by decide) (br_t (by decide) (br_f (by decide) (br_f (by decide) (br_f (by decide) (br_f (by decide) (br_f (by decide) (br_f (by decide) (br_f (by decide) (br_f (by decide) (br_f (by decide) (br_f (by decide) (br_c (fun _ => J) (fun _ => br_f te_10 J)))))))))))))))
theorem te_yk100 (hw : te_b01 wt) (hq : q < 1000) (h : te_To (fun t => wpY_move t ((nI R), (nI C), (nI P), (nI T), (nI B), ins, wr, ot, 0, (nI SR), (nI SC), (nI SP), (nI AR), (nI AC), (nI AO), (nI AB), (nI K), 0, bg, 0, mn, ce, sh, aq, kp, nq) 100 (nI n) (nI (te_max q 1))) Z) : te_To (fun t => wpY_known t ((nI R), (nI C), (nI P), (nI T), (nI B), ins, wr, ot, wt, (nI SR), (nI SC), (nI SP), (nI AR), (nI AC), (nI AO), (nI AB), (nI K), 0, bg, 0, mn, ce, sh, aq, kp, nq) 100 (nI p) (nI q) (nI n)) Z := by
  obtain ⟨z1, z2, z3, z4, z5, z6, z7, z8, z9, z10, z11, z12, z13, z14, z15, z16, z17, z18, z19, z20, z21, z22, z23, z24, z25, z26⟩ := Z
  intro post hz
  have J : wY_known_138 post 100 (nI p) (nI q) (nI n) 1 0 0 (nI R) (nI C) (nI P) (nI T) (nI B) ins wr ot wt (nI SR) (nI SC) (nI SP) (nI AR) (nI AC) (nI AO) (nI AB) (nI K) 0 bg 0 mn ce sh aq kp nq := by
    refine And.intro (te_nb te_0) (And.intro (te_fb te_0) (br_f te_10 ?_))
    unfold te_max at h
    by_cases h0 : q = 0
    · subst h0
      rw [if_pos (by omega)] at h
      refine br_t nI_0 (h _ ?_)
      exact hz
    · by_cases h1 : q ≤ 1
      · obtain rfl : q = 1 := by omega
        rw [if_pos (by omega)] at h
        refine br_f (by decide) (h _ ?_)
        exact hz
      · rw [if_neg h1] at h
        refine br_f (nI_ne0 (by omega) (by omega)) (h _ ?_)
        exact hz
  exact br_f (by decide) (br_f (by decide) (br_f (by decide) (br_f (by decide) (br_t (by decide) (br_f (by decide) (br_f (by decide) (br_f (by decide) (br_f (by decide) (br_f (by decide) (br_f (by decide) (br_f (by decide) (br_f (by decide) (br_f (by decide) (br_f (by decide) (br_c (fun _ => J) (fun _ => br_f te_10 J))))))))))))))))
theorem te_yk74 (hw : te_b01 wt) (h : te_To (fun t => wpY_cut t ((nI R), (nI C), (nI P), (nI T), (nI B), ins, wr, ot, 0, (nI SR), (nI SC), (nI SP), (nI AR), (nI AC), (nI AO), (nI AB), (nI K), 0, bg, 0, mn, ce, sh, aq, kp, nq) 74 (nI p) (nI n)) Z) : te_To (fun t => wpY_known t ((nI R), (nI C), (nI P), (nI T), (nI B), ins, wr, ot, wt, (nI SR), (nI SC), (nI SP), (nI AR), (nI AC), (nI AO), (nI AB), (nI K), 0, bg, 0, mn, ce, sh, aq, kp, nq) 74 (nI p) (nI q) (nI n)) Z := by
  obtain ⟨z1, z2, z3, z4, z5, z6, z7, z8, z9, z10, z11, z12, z13, z14, z15, z16, z17, z18, z19, z20, z21, z22, z23, z24, z25, z26⟩ := Z
  intro post hz
  have J : wY_known_138 post 74 (nI p) (nI q) (nI n) 0 1 0 (nI R) (nI C) (nI P) (nI T) (nI B) ins wr ot wt (nI SR) (nI SC) (nI SP) (nI AR) (nI AC) (nI AO) (nI AB) (nI K) 0 bg 0 mn ce sh aq kp nq := by
    refine And.intro (te_nb te_0) (And.intro (te_fb te_0) (br_t rfl (br_f te_10 (h _ ?_))))
    exact hz
  exact br_f (by decide) (br_f (by decide) (br_f (by decide) (br_f (by decide) (br_f (by decide) (br_t (by decide) (br_f (by decide) (br_f (by decide) (br_f (by decide) (br_f (by decide) (br_f (by decide) (br_c (fun _ => J) (fun _ => br_t rfl (br_f te_10 J)))))))))))))
theorem te_yk75 (hw : te_b01 wt) (h : te_To (fun t => wpY_cut t ((nI R), (nI C), (nI P), (nI T), (nI B), ins, wr, ot, 0, (nI SR), (nI SC), (nI SP), (nI AR), (nI AC), (nI AO), (nI AB), (nI K), 0, bg, 0, mn, ce, sh, aq, kp, nq) 75 (nI p) (nI n)) Z) : te_To (fun t => wpY_known t ((nI R), (nI C), (nI P), (nI T), (nI B), ins, wr, ot, wt, (nI SR), (nI SC), (nI SP), (nI AR), (nI AC), (nI AO), (nI AB), (nI K), 0, bg, 0, mn, ce, sh, aq, kp, nq) 75 (nI p) (nI q) (nI n)) Z := by
  obtain ⟨z1, z2, z3, z4, z5, z6, z7, z8, z9, z10, z11, z12, z13, z14, z15, z16, z17, z18, z19, z20, z21, z22, z23, z24, z25, z26⟩ := Z
  intro post hz
  have J : wY_known_138 post 75 (nI p) (nI q) (nI n) 0 1 0 (nI R) (nI C) (nI P) (nI T) (nI B) ins wr ot wt (nI SR) (nI SC) (nI SP) (nI AR) (nI AC) (nI AO) (nI AB) (nI K) 0 bg 0 mn ce sh aq kp nq := by
    refine And.intro (te_nb te_0) (And.intro (te_fb te_0) (br_t rfl (br_f te_10 (h _ ?_))))
    exact hz
  exact br_f (by decide) (br_f (by decide) (br_f (by decide) (br_f (by decide) (br_f (by decide) (br_f (by decide) (br_t (by decide) (br_f (by decide) (br_f (by decide) (br_f (by decide) (br_f (by decide) (br_f (by decide) (br_c (fun _ => J) (fun _ => br_t rfl (br_f te_10 J))))))))))))))
theorem te_yk88 (hw : te_b01 wt) (h : te_To (fun t => wpY_cut t ((nI R), (nI C), (nI P), (nI T), (nI B), ins, wr, ot, 0, (nI SR), (nI SC), (nI SP), (nI AR), (nI AC), (nI AO), (nI AB), (nI K), 0, bg, 0, mn, ce, sh, aq, kp, nq) 88 (nI p) (nI n)) Z) : te_To (fun t => wpY_known t ((nI R), (nI C), (nI P), (nI T), (nI B), ins, wr, ot, wt, (nI SR), (nI SC), (nI SP), (nI AR), (nI AC), (nI AO), (nI AB), (nI K), 0, bg, 0, mn, ce, sh, aq, kp, nq) 88 (nI p) (nI q) (nI n)) Z := by
  obtain ⟨z1, z2, z3, z4, z5, z6, z7, z8, z9, z10, z11, z12, z13, z14, z15, z16, z17, z18, z19, z20, z21, z22, z23, z24, z25, z26⟩ := Z
  intro post hz
  have J : wY_known_138 post 88 (nI p) (nI q) (nI n) 0 1 0 (nI R) (nI C) (nI P) (nI T) (nI B) ins wr ot wt (nI SR) (nI SC) (nI SP) (nI AR) (nI AC) (nI AO) (nI AB) (nI K) 0 bg 0 mn ce sh aq kp nq := by
    refine And.intro (te_nb te_0) (And.intro (te_fb te_0) (br_t rfl (br_f te_10 (h _ ?_))))
    exact hz
  exact br_f (by decide) (br_f (by decide) (br_f (by decide) (br_f (by decide) (br_f (by decide) (br_f (by decide) (br_f (by decide) (br_t (by decide) (br_f (by decide) (br_f (by decide) (br_f (by decide) (br_f (by decide) (br_f (by decide) (br_c (fun _ => J) (fun _ => br_t rfl (br_f te_10 J)))))))))))))))
theorem te_yk80 (hw : te_b01 wt) (h : te_To (fun t => wpY_cut t ((nI R), (nI C), (nI P), (nI T), (nI B), ins, wr, ot, 0, (nI SR), (nI SC), (nI SP), (nI AR), (nI AC), (nI AO), (nI AB), (nI K), 0, bg, 0, mn, ce, sh, aq, kp, nq) 80 (nI p) (nI n)) Z) : te_To (fun t => wpY_known t ((nI R), (nI C), (nI P), (nI T), (nI B), ins, wr, ot, wt, (nI SR), (nI SC), (nI SP), (nI AR), (nI AC), (nI AO), (nI AB), (nI K), 0, bg, 0, mn, ce, sh, aq, kp, nq) 80 (nI p) (nI q) (nI n)) Z := by
  obtain ⟨z1, z2, z3, z4, z5, z6, z7, z8, z9, z10, z11, z12, z13, z14, z15, z16, z17, z18, z19, z20, z21, z22, z23, z24, z25, z26⟩ := Z
  intro post hz
  have J : wY_known_138 post 80 (nI p) (nI q) (nI n) 0 1 0 (nI R) (nI C) (nI P) (nI T) (nI B) ins wr ot wt (nI SR) (nI SC) (nI SP) (nI AR) (nI AC) (nI AO) (nI AB) (nI K) 0 bg 0 mn ce sh aq kp nq := by
    refine And.intro (te_nb te_0) (And.intro (te_fb te_0) (br_t rfl (br_f te_10 (h _ ?_))))
    exact hz
  exact br_f (by decide) (br_f (by decide) (br_f (by decide) (br_f (by decide) (br_f (by decide) (br_f (by decide) (br_f (by decide) (br_f (by decide) (br_t (by decide) (br_f (by decide) (br_f (by decide) (br_f (by decide) (br_f (by decide) (br_f (by decide) (br_c (fun _ => J) (fun _ => br_t rfl (br_f te_10 J))))))))))))))))
theorem te_yk64 (hw : te_b01 wt) (h : te_To (fun t => wpY_cut t ((nI R), (nI C), (nI P), (nI T), (nI B), ins, wr, ot, 0, (nI SR), (nI SC), (nI SP), (nI AR), (nI AC), (nI AO), (nI AB), (nI K), 0, bg, 0, mn, ce, sh, aq, kp, nq) 64 (nI p) (nI n)) Z) : te_To (fun t => wpY_known t ((nI R), (nI C), (nI P), (nI T), (nI B), ins, wr, ot, wt, (nI SR), (nI SC), (nI SP), (nI AR), (nI AC), (nI AO), (nI AB), (nI K), 0, bg, 0, mn, ce, sh, aq, kp, nq) 64 (nI p) (nI q) (nI n)) Z := by
  obtain ⟨z1, z2, z3, z4, z5, z6, z7, z8, z9, z10, z11, z12, z13, z14, z15, z16, z17, z18, z19, z20, z21, z22, z23, z24, z25, z26⟩ := Z
  intro post hz
  have J : wY_known_138 post 64 (nI p) (nI q) (nI n) 0 1 0 (nI R) (nI C) (nI P) (nI T) (nI B) ins wr ot wt (nI SR) (nI SC) (nI SP) (nI AR) (nI AC) (nI AO) (nI AB) (nI K) 0 bg 0 mn ce sh aq kp nq := by
    refine And.intro (te_nb te_0) (And.intro (te_fb te_0) (br_t rfl (br_f te_10 (h _ ?_))))
    exact hz
  exact br_t (by decide) (br_f (by decide) (br_f (by decide) (br_f (by decide) (br_f (by decide) (br_f (by decide) (br_f (by decide) (br_f (by decide) (br_t (by decide) (br_f (by decide) (br_f (by decide) (br_f (by decide) (br_f (by decide) (br_f (by decide) (br_c (fun _ => J) (fun _ => br_t rfl (br_f te_10 J))))))))))))))))
theorem te_yk76 (hw : te_b01 wt) (h : te_To (fun t => wpY_moveRows t ((nI R), (nI C), (nI P), (nI T), (nI B), ins, wr, ot, 0, (nI SR), (nI SC), (nI SP), (nI AR), (nI AC), (nI AO), (nI AB), (nI K), 0, bg, 0, mn, ce, sh, aq, kp, nq) 76 (nI n)) Z) : te_To (fun t => wpY_known t ((nI R), (nI C), (nI P), (nI T), (nI B), ins, wr, ot, wt, (nI SR), (nI SC), (nI SP), (nI AR), (nI AC), (nI AO), (nI AB), (nI K), 0, bg, 0, mn, ce, sh, aq, kp, nq) 76 (nI p) (nI q) (nI n)) Z := by
  obtain ⟨z1, z2, z3, z4, z5, z6, z7, z8, z9, z10, z11, z12, z13, z14, z15, z16, z17, z18, z19, z20, z21, z22, z23, z24, z25, z26⟩ := Z
  intro post hz
  have J : wY_known_138 post 76 (nI p) (nI q) (nI n) 0 0 1 (nI R) (nI C) (nI P) (nI T) (nI B) ins wr ot wt (nI SR) (nI SC) (nI SP) (nI AR) (nI AC) (nI AO) (nI AB) (nI K) 0 bg 0 mn ce sh aq kp nq := by
    refine And.intro (te_nb te_0) (And.intro (te_fb te_0) (br_t rfl (br_t rfl (br_f (by decide) (br_f te_10 (h _ ?_))))))
    exact hz
  exact br_f (by decide) (br_f (by decide) (br_f (by decide) (br_f (by decide) (br_f (by decide) (br_f (by decide) (br_f (by decide) (br_f (by decide) (br_f (by decide) (br_f (by decide) (br_t (by decide) (br_c (fun _ => J) (fun _ => br_t rfl (br_t rfl (br_f te_10 J))))))))))))))
theorem te_yk77 (hw : te_b01 wt) (h : te_To (fun t => wpY_moveRows t ((nI R), (nI C), (nI P), (nI T), (nI B), ins, wr, ot, 0, (nI SR), (nI SC), (nI SP), (nI AR), (nI AC), (nI AO), (nI AB), (nI K), 0, bg, 0, mn, ce, sh, aq, kp, nq) 77 (nI n)) Z) : te_To (fun t => wpY_known t ((nI R), (nI C), (nI P), (nI T), (nI B), ins, wr, ot, wt, (nI SR), (nI SC), (nI SP), (nI AR), (nI AC), (nI AO), (nI AB), (nI K), 0, bg, 0, mn, ce, sh, aq, kp, nq) 77 (nI p) (nI q) (nI n)) Z := by
  obtain ⟨z1, z2, z3, z4, z5, z6, z7, z8, z9, z10, z11, z12, z13, z14, z15, z16, z17, z18, z19, z20, z21, z22, z23, z24, z25, z26⟩ := Z
  intro post hz
  have J : wY_known_138 post 77 (nI p) (nI q) (nI n) 0 0 1 (nI R) (nI C) (nI P) (nI T) (nI B) ins wr ot wt (nI SR) (nI SC) (nI SP) (nI AR) (nI AC) (nI AO) (nI AB) (nI K) 0 bg 0 mn ce sh aq kp nq := by
    refine And.intro (te_nb te_0) (And.intro (te_fb te_0) (br_t rfl (br_t rfl (br_f (by decide) (br_f te_10 (h _ ?_))))))
    exact hz
  exact br_f (by decide) (br_f (by decide) (br_f (by decide) (br_f (by decide) (br_f (by decide) (br_f (by decide) (br_f (by decide) (br_f (by decide) (br_f (by decide) (br_f (by decide) (br_f (by decide) (br_t (by decide) (br_c (fun _ => J) (fun _ => br_t rfl (br_t rfl (br_f te_10 J)))))))))))))))
theorem te_yk83 (hw : te_b01 wt) (h : te_To (fun t => wpY_moveRows t ((nI R), (nI C), (nI P), (nI T), (nI B), ins, wr, ot, 0, (nI SR), (nI SC), (nI SP), (nI AR), (nI AC), (nI AO), (nI AB), (nI K), 0, bg, 0, mn, ce, sh, aq, kp, nq) 83 (nI n)) Z) : te_To (fun t => wpY_known t ((nI R), (nI C), (nI P), (nI T), (nI B), ins, wr, ot, wt, (nI SR), (nI SC), (nI SP), (nI AR), (nI AC), (nI AO), (nI AB), (nI K), 0, bg, 0, mn, ce, sh, aq, kp, nq) 83 (nI p) (nI q) (nI n)) Z := by
  obtain ⟨z1, z2, z3, z4, z5, z6, z7, z8, z9, z10, z11, z12, z13, z14, z15, z16, z17, z18, z19, z20, z21, z22, z23, z24, z25, z26⟩ := Z
  intro post hz
  have J : wY_known_138 post 83 (nI p) (nI q) (nI n) 0 0 1 (nI R) (nI C) (nI P) (nI T) (nI B) ins wr ot wt (nI SR) (nI SC) (nI SP) (nI AR) (nI AC) (nI AO) (nI AB) (nI K) 0 bg 0 mn ce sh aq kp nq := by
    refine And.intro (te_nb te_0) (And.intro (te_fb te_0) (br_t rfl (br_t rfl (br_f (by decide) (br_f te_10 (h _ ?_))))))
    exact hz
  exact br_f (by decide) (br_f (by decide) (br_f (by decide) (br_f (by decide) (br_f (by decide) (br_f (by decide) (br_f (by decide) (br_f (by decide) (br_f (by decide) (br_f (by decide) (br_f (by decide) (br_f (by decide) (br_t (by decide) (br_c (fun _ => J) (fun _ => br_t rfl (br_t rfl (br_f te_10 J))))))))))))))))
theorem te_yk84 (hw : te_b01 wt) (h : te_To (fun t => wpY_moveRows t ((nI R), (nI C), (nI P), (nI T), (nI B), ins, wr, ot, 0, (nI SR), (nI SC), (nI SP), (nI AR), (nI AC), (nI AO), (nI AB), (nI K), 0, bg, 0, mn, ce, sh, aq, kp, nq) 84 (nI n)) Z) : te_To (fun t => wpY_known t ((nI R), (nI C), (nI P), (nI T), (nI B), ins, wr, ot, wt, (nI SR), (nI SC), (nI SP), (nI AR), (nI AC), (nI AO), (nI AB), (nI K), 0, bg, 0, mn, ce, sh, aq, kp, nq) 84 (nI p) (nI q) (nI n)) Z := by
  obtain ⟨z1, z2, z3, z4, z5, z6, z7, z8, z9, z10, z11, z12, z13, z14, z15, z16, z17, z18, z19, z20, z21, z22, z23, z24, z25, z26⟩ := Z
  intro post hz
  have J : wY_known_138 post 84 (nI p) (nI q) (nI n) 0 0 1 (nI R) (nI C) (nI P) (nI T) (nI B) ins wr ot wt (nI SR) (nI SC) (nI SP) (nI AR) (nI AC) (nI AO) (nI AB) (nI K) 0 bg 0 mn ce sh aq kp nq := by
    refine And.intro (te_nb te_0) (And.intro (te_fb te_0) (br_t rfl (br_t rfl (br_f (by decide) (br_f te_10 (h _ ?_))))))
    exact hz
  exact br_f (by decide) (br_f (by decide) (br_f (by decide) (br_f (by decide) (br_f (by decide) (br_f (by decide) (br_f (by decide) (br_f (by decide) (br_f (by decide) (br_f (by decide) (br_f (by decide) (br_f (by decide) (br_f (by decide) (br_t (by decide) (br_c (fun _ => J) (fun _ => br_t rfl (br_t rfl (br_f te_10 J)))))))))))))))))
/-- r: q = 0 counts as 6 -/
def te_q6 (q : Nat) : Nat := if q = 0 then 6 else q
theorem te_yk114 (hw : te_b01 wt) (hq : q < 1000) (h : te_To (fun t => wY_known_198 t (nI n) (nI (te_q6 q)) (nI R) (nI C) (nI P) (nI T) (nI B) ins wr ot 0 (nI SR) (nI SC) (nI SP) (nI AR) (nI AC) (nI AO) (nI AB) (nI K) 0 bg 0 mn ce sh aq kp nq) Z) : te_To (fun t => wpY_known t ((nI R), (nI C), (nI P), (nI T), (nI B), ins, wr, ot, wt, (nI SR), (nI SC), (nI SP), (nI AR), (nI AC), (nI AO), (nI AB), (nI K), 0, bg, 0, mn, ce, sh, aq, kp, nq) 114 (nI p) (nI q) (nI n)) Z := by
  obtain ⟨z1, z2, z3, z4, z5, z6, z7, z8, z9, z10, z11, z12, z13, z14, z15, z16, z17, z18, z19, z20, z21, z22, z23, z24, z25, z26⟩ := Z
  intro post hz
  have J : wY_known_138 post 114 (nI p) (nI q) (nI n) 0 0 1 (nI R) (nI C) (nI P) (nI T) (nI B) ins wr ot wt (nI SR) (nI SC) (nI SP) (nI AR) (nI AC) (nI AO) (nI AB) (nI K) 0 bg 0 mn ce sh aq kp nq := by
    refine And.intro (te_nb te_0) (And.intro (te_fb te_0) (br_t rfl (br_t rfl (br_t rfl ?_))))
    unfold te_q6 at h
    by_cases h0 : q = 0
    · subst h0
      rw [if_pos rfl] at h
      refine br_t nI_0 (h _ ?_)
      exact hz
    · rw [if_neg h0] at h
      refine br_f (nI_ne0 (by omega) (by omega)) (h _ ?_)
      exact hz
  exact br_f (by decide) (br_f (by decide) (br_f (by decide) (br_f (by decide) (br_f (by decide) (br_f (by decide) (br_f (by decide) (br_f (by decide) (br_f (by decide) (br_f (by decide) (br_f (by decide) (br_f (by decide) (br_f (by decide) (br_f (by decide) (br_t (by decide) (br_c (fun _ => J) (fun _ => br_t rfl (br_t rfl (br_f te_10 J))))))))))))))))))
theorem te_ykN {x : Int32} (hw : te_b01 wt) (h64 : ¬ x = 64) (h65 : ¬ x = 65) (h66 : ¬ x = 66) (h67 : ¬ x = 67) (h68 : ¬ x = 68) (h71 : ¬ x = 71) (h72 : ¬ x = 72) (h74 : ¬ x = 74) (h75 : ¬ x = 75) (h76 : ¬ x = 76) (h77 : ¬ x = 77) (h80 : ¬ x = 80) (h83 : ¬ x = 83) (h84 : ¬ x = 84) (h88 : ¬ x = 88) (h100 : ¬ x = 100) (h114 : ¬ x = 114) (hlo : ¬ x < 65 → ¬ x ≤ 68) : te_To (fun t => wpY_known t ((nI R), (nI C), (nI P), (nI T), (nI B), ins, wr, ot, wt, (nI SR), (nI SC), (nI SP), (nI AR), (nI AC), (nI AO), (nI AB), (nI K), 0, bg, 0, mn, ce, sh, aq, kp, nq) x (nI p) (nI q) (nI n)) ((nI R), (nI C), (nI P), (nI T), (nI B), ins, wr, ot, wt, (nI SR), (nI SC), (nI SP), (nI AR), (nI AC), (nI AO), (nI AB), (nI K), 0, bg, 0, mn, ce, sh, aq, kp, nq) := by
  intro post hz
  have J : ∀ z : Int32, te_b01 z → z = wt → wY_known_139 post x (nI p) (nI q) (nI n) 0 0 0 z (nI R) (nI C) (nI P) (nI T) (nI B) ins wr ot wt (nI SR) (nI SC) (nI SP) (nI AR) (nI AC) (nI AO) (nI AB) (nI K) 0 bg 0 mn ce sh aq kp nq := by
    intro z hb hzw
    subst hzw
    exact And.intro (te_nb hb) (And.intro (te_fb hb) (br_t rfl (br_t rfl (br_f h114 (br_t rfl hz)))))
  have G : wY_known_109 post x (nI p) (nI q) (nI n) 0 0 0 (nI R) (nI C) (nI P) (nI T) (nI B) ins wr ot wt (nI SR) (nI SC) (nI SP) (nI AR) (nI AC) (nI AO) (nI AB) (nI K) 0 bg 0 mn ce sh aq kp nq :=
    br_c (fun z => J 0 te_0 z.symm) (fun z => br_t rfl (br_t rfl (br_t rfl (J 1 te_1 (te_b1 hw z).symm))))
  have G12 : wY_known_12 post x (nI p) (nI q) (nI n) (nI R) (nI C) (nI P) (nI T) (nI B) ins wr ot wt (nI SR) (nI SC) (nI SP) (nI AR) (nI AC) (nI AO) (nI AB) (nI K) 0 bg 0 mn ce sh aq kp nq := br_f h71 (br_f h72 (br_f h100 (br_f h74 (br_f h75 (br_f h88 (br_f h80 (br_f h64 (br_f h76 (br_f h77 (br_f h83 (br_f h84 (br_f h114 (G)))))))))))))
  exact br_c (fun _ => G12) (fun z => br_f (hlo z) G12)
/-- into known(..) -/
theorem te_ylast {x : Int32} (h104 : ¬ x = 104) (h108 : ¬ x = 108) (h109 : ¬ x = 109) (hp : p < 1000) (e0 : nq 0 = nI p) (e1 : nq 1 = nI q) (h : te_To (fun t => wpY_known t ((nI R), (nI C), (nI P), (nI T), (nI B), ins, wr, ot, wt, (nI SR), (nI SC), (nI SP), (nI AR), (nI AC), (nI AO), (nI AB), (nI K), 0, bg, 0, mn, ce, sh, aq, kp, nq) x (nI p) (nI q) (nI (te_max p 1))) Z) : te_To (fun t => wpY_last t ((nI R), (nI C), (nI P), (nI T), (nI B), ins, wr, ot, wt, (nI SR), (nI SC), (nI SP), (nI AR), (nI AC), (nI AO), (nI AB), (nI K), 0, bg, 0, mn, ce, sh, aq, kp, nq) x) Z := by
  obtain ⟨z1, z2, z3, z4, z5, z6, z7, z8, z9, z10, z11, z12, z13, z14, z15, z16, z17, z18, z19, z20, z21, z22, z23, z24, z25, z26⟩ := Z
  intro post hz
  refine nm_r e0 (br_f h104 (br_f h104 (br_f h108 (br_f h109 (br_t rfl ?_)))))
  rw [e1]
  unfold te_max at h
  by_cases h0 : p = 0
  · subst h0
    rw [if_pos (by omega)] at h
    refine br_t nI_0 (h _ ?_)
    exact hz
  · by_cases h1 : p ≤ 1
    · obtain rfl : p = 1 := by omega
      rw [if_pos (by omega)] at h
      refine br_f (by decide) (h _ ?_)
      exact hz
    · rw [if_neg h1] at h
      refine br_f (nI_ne0 (by omega) (by omega)) (h _ ?_)
      exact hz
end
