/-! the reference: each last byte -/
section
variable {R C P T B SR SC SP AR AC AO AB K : Nat} {ins wr ot wt bg mn : Int32} {ce aq sh kp nu : Nat → Int32} {p q : Nat}
theorem te_yr65 (hR : R < 6) (hC : C < 12) (hP : P < 8) (hTB : T ≤ B) (hB : B < 6) (hK : K ≤ 8) (hp : p ≤ 99) (hq : q ≤ 99) (hw : te_b01 wt) (hc : te_rg ce) (e0 : nu 0 = nI p) (e1 : nu 1 = nI q) : te_To (fun t => wpY_last t ((nI R), (nI C), (nI P), (nI T), (nI B), ins, wr, ot, wt, (nI SR), (nI SC), (nI SP), (nI AR), (nI AC), (nI AO), (nI AB), (nI K), 0, bg, 0, mn, ce, sh, aq, kp, nu) 65) ((nI (te_dec R (te_max p 1) (te_L65 R T))), (nI C), (nI P), (nI T), (nI B), ins, wr, ot, 0, (nI SR), (nI SC), (nI SP), (nI AR), (nI AC), (nI AO), (nI AB), (nI K), 0, bg, 0, mn, ce, sh, aq, kp, nu) := by
  obtain ⟨hn1, hn9⟩ := te_n1 p
  have hn := hn9 hp
  refine te_ylast (by decide) (by decide) (by decide) (by omega) e0 e1 (te_yk65 hw (by omega) ?_)
  intro post h
  unfold wpY_move
  have G : ∀ L : Nat, L < 6 → te_L65 R T = L → wY_move_25 post (nI (te_max p 1)) (nI L) (nI R) (nI C) (nI P) (nI T) (nI B) ins wr ot 0 (nI SR) (nI SC) (nI SP) (nI AR) (nI AC) (nI AO) (nI AB) (nI K) 0 bg 0 mn ce sh aq kp nu := by
    intro L hL e
    rw [e] at h
    unfold te_dec at h
    by_cases hc : L + (te_max p 1) ≤ R
    · refine br_t ((te_leSub (by omega) (by omega) (by omega)).mpr hc) (nm_r (te_nsub (by omega)) ?_)
      by_cases hd : R ≤ L + (te_max p 1)
      · rw [if_pos hd] at h
        rw [show R - (te_max p 1) = L from by omega]
        exact h
      · rw [if_neg hd] at h
        exact h
    · rw [if_pos (by omega)] at h
      exact br_f (fun z => hc ((te_leSub (by omega) (by omega) (by omega)).mp z)) h
  by_cases hT : R < T
  · refine br_t rfl (br_t (nI_lt hT (by omega)) ?_)
    exact G 0 (by omega) (if_pos hT)
  · refine br_t rfl (br_f (nI_nlt (by omega) (by omega)) ?_)
    exact G T (by omega) (if_neg hT)
theorem te_yr66 (hR : R < 6) (hC : C < 12) (hP : P < 8) (hTB : T ≤ B) (hB : B < 6) (hK : K ≤ 8) (hp : p ≤ 99) (hq : q ≤ 99) (hw : te_b01 wt) (hc : te_rg ce) (e0 : nu 0 = nI p) (e1 : nu 1 = nI q) : te_To (fun t => wpY_last t ((nI R), (nI C), (nI P), (nI T), (nI B), ins, wr, ot, wt, (nI SR), (nI SC), (nI SP), (nI AR), (nI AC), (nI AO), (nI AB), (nI K), 0, bg, 0, mn, ce, sh, aq, kp, nu) 66) ((nI (te_min (R + (te_max p 1)) (te_L66 R B))), (nI C), (nI P), (nI T), (nI B), ins, wr, ot, 0, (nI SR), (nI SC), (nI SP), (nI AR), (nI AC), (nI AO), (nI AB), (nI K), 0, bg, 0, mn, ce, sh, aq, kp, nu) := by
  obtain ⟨hn1, hn9⟩ := te_n1 p
  have hn := hn9 hp
  refine te_ylast (by decide) (by decide) (by decide) (by omega) e0 e1 (te_yk66 hw (by omega) ?_)
  intro post h
  unfold wpY_move
  by_cases hT : R ≤ B
  · have e : te_L66 R B = B := if_pos hT
    rw [e] at h
    refine br_f (by decide) (br_t rfl (br_f (nI_nlt (by omega) (by omega)) ?_))
    unfold wY_move_89
    refine te_yless (R + (te_max p 1)) B (nI_add _ _) rfl (by omega) (by omega) ?_
    exact h
  · have e : te_L66 R B = 5 := if_neg hT
    rw [e] at h
    refine br_f (by decide) (br_t rfl (br_t (nI_lt (by omega) (by omega)) ?_))
    unfold wY_move_89
    refine te_yless (R + (te_max p 1)) 5 (nI_add _ _) rfl (by omega) (by omega) ?_
    exact h
theorem te_yr67 (hR : R < 6) (hC : C < 12) (hP : P < 8) (hTB : T ≤ B) (hB : B < 6) (hK : K ≤ 8) (hp : p ≤ 99) (hq : q ≤ 99) (hw : te_b01 wt) (hc : te_rg ce) (e0 : nu 0 = nI p) (e1 : nu 1 = nI q) : te_To (fun t => wpY_last t ((nI R), (nI C), (nI P), (nI T), (nI B), ins, wr, ot, wt, (nI SR), (nI SC), (nI SP), (nI AR), (nI AC), (nI AO), (nI AB), (nI K), 0, bg, 0, mn, ce, sh, aq, kp, nu) 67) ((nI R), (nI (te_min (C + (te_max p 1)) 11)), (nI P), (nI T), (nI B), ins, wr, ot, 0, (nI SR), (nI SC), (nI SP), (nI AR), (nI AC), (nI AO), (nI AB), (nI K), 0, bg, 0, mn, ce, sh, aq, kp, nu) := by
  obtain ⟨hn1, hn9⟩ := te_n1 p
  have hn := hn9 hp
  refine te_ylast (by decide) (by decide) (by decide) (by omega) e0 e1 (te_yk67 hw (by omega) ?_)
  intro post h
  unfold wpY_move
  refine br_f (by decide) (br_f (by decide) (br_t rfl ?_))
  refine te_yless (C + (te_max p 1)) 11 (nI_add _ _) rfl (by omega) (by omega) ?_
  exact h
theorem te_yr68 (hR : R < 6) (hC : C < 12) (hP : P < 8) (hTB : T ≤ B) (hB : B < 6) (hK : K ≤ 8) (hp : p ≤ 99) (hq : q ≤ 99) (hw : te_b01 wt) (hc : te_rg ce) (e0 : nu 0 = nI p) (e1 : nu 1 = nI q) : te_To (fun t => wpY_last t ((nI R), (nI C), (nI P), (nI T), (nI B), ins, wr, ot, wt, (nI SR), (nI SC), (nI SP), (nI AR), (nI AC), (nI AO), (nI AB), (nI K), 0, bg, 0, mn, ce, sh, aq, kp, nu) 68) ((nI R), (nI (te_dec C (te_max p 1) 0)), (nI P), (nI T), (nI B), ins, wr, ot, 0, (nI SR), (nI SC), (nI SP), (nI AR), (nI AC), (nI AO), (nI AB), (nI K), 0, bg, 0, mn, ce, sh, aq, kp, nu) := by
  obtain ⟨hn1, hn9⟩ := te_n1 p
  have hn := hn9 hp
  refine te_ylast (by decide) (by decide) (by decide) (by omega) e0 e1 (te_yk68 hw (by omega) ?_)
  intro post h
  unfold wpY_move
  refine br_f (by decide) (br_f (by decide) (br_f (by decide) (br_t rfl ?_)))
  unfold te_dec at h
  by_cases hc : 0 + (te_max p 1) ≤ C
  · refine br_t ((te_leSub (l := 0) (by omega) (by omega) (by omega)).mpr hc) (nm_r (te_nsub (by omega)) ?_)
    by_cases hd : C ≤ 0 + (te_max p 1)
    · rw [if_pos hd] at h
      rw [show C - (te_max p 1) = 0 from by omega]
      exact h
    · rw [if_neg hd] at h
      exact h
  · rw [if_pos (by omega)] at h
    exact br_f (fun z => hc ((te_leSub (l := 0) (by omega) (by omega) (by omega)).mp z)) h
theorem te_yr71 (hR : R < 6) (hC : C < 12) (hP : P < 8) (hTB : T ≤ B) (hB : B < 6) (hK : K ≤ 8) (hp : p ≤ 99) (hq : q ≤ 99) (hw : te_b01 wt) (hc : te_rg ce) (e0 : nu 0 = nI p) (e1 : nu 1 = nI q) : te_To (fun t => wpY_last t ((nI R), (nI C), (nI P), (nI T), (nI B), ins, wr, ot, wt, (nI SR), (nI SC), (nI SP), (nI AR), (nI AC), (nI AO), (nI AB), (nI K), 0, bg, 0, mn, ce, sh, aq, kp, nu) 71) ((nI R), (nI (te_min ((te_max p 1) - 1) 11)), (nI P), (nI T), (nI B), ins, wr, ot, 0, (nI SR), (nI SC), (nI SP), (nI AR), (nI AC), (nI AO), (nI AB), (nI K), 0, bg, 0, mn, ce, sh, aq, kp, nu) := by
  obtain ⟨hn1, hn9⟩ := te_n1 p
  have hn := hn9 hp
  refine te_ylast (by decide) (by decide) (by decide) (by omega) e0 e1 (te_yk71 hw (by omega) ?_)
  intro post h
  unfold wpY_move
  refine br_f (by decide) (br_f (by decide) (br_f (by decide) (br_f (by decide) (br_t rfl ?_))))
  refine br_f (by decide) (br_t rfl ?_)
  unfold wY_move_210
  refine te_yless ((te_max p 1) - 1) 11 (te_ns1 hn1) rfl (by omega) (by omega) ?_
  exact h
theorem te_yr100 (hR : R < 6) (hC : C < 12) (hP : P < 8) (hTB : T ≤ B) (hB : B < 6) (hK : K ≤ 8) (hp : p ≤ 99) (hq : q ≤ 99) (hw : te_b01 wt) (hc : te_rg ce) (e0 : nu 0 = nI p) (e1 : nu 1 = nI q) : te_To (fun t => wpY_last t ((nI R), (nI C), (nI P), (nI T), (nI B), ins, wr, ot, wt, (nI SR), (nI SC), (nI SP), (nI AR), (nI AC), (nI AO), (nI AB), (nI K), 0, bg, 0, mn, ce, sh, aq, kp, nu) 100) ((nI (te_min ((te_max p 1) - 1) 5)), (nI C), (nI P), (nI T), (nI B), ins, wr, ot, 0, (nI SR), (nI SC), (nI SP), (nI AR), (nI AC), (nI AO), (nI AB), (nI K), 0, bg, 0, mn, ce, sh, aq, kp, nu) := by
  obtain ⟨hn1, hn9⟩ := te_n1 p
  have hn := hn9 hp
  refine te_ylast (by decide) (by decide) (by decide) (by omega) e0 e1 (te_yk100 hw (by omega) ?_)
  intro post h
  unfold wpY_move
  refine br_f (by decide) (br_f (by decide) (br_f (by decide) (br_f (by decide) (br_f (by decide) ?_))))
  refine te_yless ((te_max p 1) - 1) 5 (te_ns1 hn1) rfl (by omega) (by omega) ?_
  refine br_t rfl ?_
  exact h
theorem te_yr72 (hR : R < 6) (hC : C < 12) (hP : P < 8) (hTB : T ≤ B) (hB : B < 6) (hK : K ≤ 8) (hp : p ≤ 99) (hq : q ≤ 99) (hw : te_b01 wt) (hc : te_rg ce) (e0 : nu 0 = nI p) (e1 : nu 1 = nI q) : te_To (fun t => wpY_last t ((nI R), (nI C), (nI P), (nI T), (nI B), ins, wr, ot, wt, (nI SR), (nI SC), (nI SP), (nI AR), (nI AC), (nI AO), (nI AB), (nI K), 0, bg, 0, mn, ce, sh, aq, kp, nu) 72) ((nI (te_min ((te_max p 1) - 1) 5)), (nI (te_min (te_max q 1 - 1) 11)), (nI P), (nI T), (nI B), ins, wr, ot, 0, (nI SR), (nI SC), (nI SP), (nI AR), (nI AC), (nI AO), (nI AB), (nI K), 0, bg, 0, mn, ce, sh, aq, kp, nu) := by
  obtain ⟨hn1, hn9⟩ := te_n1 p
  have hn := hn9 hp
  refine te_ylast (by decide) (by decide) (by decide) (by omega) e0 e1 (te_yk72 hw (by omega) ?_)
  intro post h
  unfold wpY_move
  obtain ⟨hq1, hq9⟩ := te_n1 q
  have hqq := hq9 hq
  refine br_f (by decide) (br_f (by decide) (br_f (by decide) (br_f (by decide) (br_f (by decide) ?_))))
  refine te_yless ((te_max p 1) - 1) 5 (te_ns1 hn1) rfl (by omega) (by omega) ?_
  refine br_f (by decide) (br_f (by decide) ?_)
  unfold wY_move_210
  refine te_yless (te_max q 1 - 1) 11 (te_ns1 hq1) rfl (by omega) (by omega) ?_
  exact h
theorem te_yr74 (hR : R < 6) (hC : C < 12) (hP : P < 8) (hTB : T ≤ B) (hB : B < 6) (hK : K ≤ 8) (hp : p ≤ 99) (hq : q ≤ 99) (hw : te_b01 wt) (hc : te_rg ce) (e0 : nu 0 = nI p) (e1 : nu 1 = nI q) : te_To (fun t => wpY_last t ((nI R), (nI C), (nI P), (nI T), (nI B), ins, wr, ot, wt, (nI SR), (nI SC), (nI SP), (nI AR), (nI AC), (nI AO), (nI AB), (nI K), 0, bg, 0, mn, ce, sh, aq, kp, nu) 74) ((nI R), (nI C), (nI P), (nI T), (nI B), ins, wr, ot, 0, (nI SR), (nI SC), (nI SP), (nI AR), (nI AC), (nI AO), (nI AB), (nI K), 0, bg, 0, mn, (te_er p 0 72 (12 * R + C) ce), sh, aq, kp, nu) := by
  obtain ⟨hn1, hn9⟩ := te_n1 p
  have hn := hn9 hp
  refine te_ylast (by decide) (by decide) (by decide) (by omega) e0 e1 (te_yk74 hw ?_)
  intro post h
  unfold wpY_cut
  refine nm_r (te_iy R C) ?_
  refine br_t rfl (br_t rfl (br_t rfl ?_))
  unfold te_er at h
  by_cases h0 : p = 0
  · subst h0
    rw [if_pos rfl] at h
    refine br_f (nI_nlt (a := 2) (b := 0) (by omega) (by omega)) (br_t nI_0 (br_f (by decide) ?_))
    unfold wY_cut_97
    refine te_yempty (12 * R + C) (71) rfl rfl (by omega) (by omega) ?_
    exact h
  rw [if_neg h0] at h
  by_cases h1 : p = 1
  · subst h1
    rw [if_pos rfl] at h
    refine br_f (by decide) (br_f (by decide) (br_t rfl ?_))
    unfold wY_cut_97
    refine te_yempty (0) (12 * R + C) rfl rfl (by omega) (by omega) ?_
    exact h
  rw [if_neg h1] at h
  by_cases h2 : p = 2
  · subst h2
    rw [if_pos rfl] at h
    refine br_f (by decide) (br_f (by decide) (br_f (by decide) ?_))
    unfold wY_cut_97
    refine te_yempty (0) (71) rfl rfl (by omega) (by omega) ?_
    exact h
  rw [if_neg h2] at h
  exact br_t (nI_lt (a := 2) (by omega) (by omega)) h
theorem te_yr75 (hR : R < 6) (hC : C < 12) (hP : P < 8) (hTB : T ≤ B) (hB : B < 6) (hK : K ≤ 8) (hp : p ≤ 99) (hq : q ≤ 99) (hw : te_b01 wt) (hc : te_rg ce) (e0 : nu 0 = nI p) (e1 : nu 1 = nI q) : te_To (fun t => wpY_last t ((nI R), (nI C), (nI P), (nI T), (nI B), ins, wr, ot, wt, (nI SR), (nI SC), (nI SP), (nI AR), (nI AC), (nI AO), (nI AB), (nI K), 0, bg, 0, mn, ce, sh, aq, kp, nu) 75) ((nI R), (nI C), (nI P), (nI T), (nI B), ins, wr, ot, 0, (nI SR), (nI SC), (nI SP), (nI AR), (nI AC), (nI AO), (nI AB), (nI K), 0, bg, 0, mn, (te_er p (12 * R) (12 * R + 12) (12 * R + C) ce), sh, aq, kp, nu) := by
  obtain ⟨hn1, hn9⟩ := te_n1 p
  have hn := hn9 hp
  refine te_ylast (by decide) (by decide) (by decide) (by omega) e0 e1 (te_yk75 hw ?_)
  intro post h
  unfold wpY_cut
  refine nm_r (te_iy R C) ?_
  refine br_f (by decide) (br_f (by decide) ?_)
  rw [te_iy11, te_12m]
  refine br_f (by decide) (br_t rfl ?_)
  unfold te_er at h
  by_cases h0 : p = 0
  · subst h0
    rw [if_pos rfl] at h
    refine br_f (nI_nlt (a := 2) (b := 0) (by omega) (by omega)) (br_t nI_0 (br_f (by decide) ?_))
    unfold wY_cut_97
    refine te_yempty (12 * R + C) (12 * R + 11) rfl rfl (by omega) (by omega) ?_
    exact h
  rw [if_neg h0] at h
  by_cases h1 : p = 1
  · subst h1
    rw [if_pos rfl] at h
    refine br_f (by decide) (br_f (by decide) (br_t rfl ?_))
    unfold wY_cut_97
    refine te_yempty (12 * R) (12 * R + C) rfl rfl (by omega) (by omega) ?_
    exact h
  rw [if_neg h1] at h
  by_cases h2 : p = 2
  · subst h2
    rw [if_pos rfl] at h
    refine br_f (by decide) (br_f (by decide) (br_f (by decide) ?_))
    unfold wY_cut_97
    refine te_yempty (12 * R) (12 * R + 11) rfl rfl (by omega) (by omega) ?_
    exact h
  rw [if_neg h2] at h
  exact br_t (nI_lt (a := 2) (by omega) (by omega)) h
theorem te_yr88 (hR : R < 6) (hC : C < 12) (hP : P < 8) (hTB : T ≤ B) (hB : B < 6) (hK : K ≤ 8) (hp : p ≤ 99) (hq : q ≤ 99) (hw : te_b01 wt) (hc : te_rg ce) (e0 : nu 0 = nI p) (e1 : nu 1 = nI q) : te_To (fun t => wpY_last t ((nI R), (nI C), (nI P), (nI T), (nI B), ins, wr, ot, wt, (nI SR), (nI SC), (nI SP), (nI AR), (nI AC), (nI AO), (nI AB), (nI K), 0, bg, 0, mn, ce, sh, aq, kp, nu) 88) ((nI R), (nI C), (nI P), (nI T), (nI B), ins, wr, ot, 0, (nI SR), (nI SC), (nI SP), (nI AR), (nI AC), (nI AO), (nI AB), (nI K), 0, bg, 0, mn, (te_cl ce (12 * R + C) (12 * R + te_min (C + (te_max p 1)) 12)), sh, aq, kp, nu) := by
  obtain ⟨hn1, hn9⟩ := te_n1 p
  have hn := hn9 hp
  refine te_ylast (by decide) (by decide) (by decide) (by omega) e0 e1 (te_yk88 hw ?_)
  intro post h
  unfold wpY_cut
  refine nm_r (te_iy R C) ?_
  refine br_f (by decide) (br_f (by decide) (br_f (by decide) (br_f (by decide) (br_t rfl ?_))))
  have e : te_min (12 * R + C + (te_max p 1) - 1) (12 * R + 11) + 1 = 12 * R + te_min (C + (te_max p 1)) 12 := by
    unfold te_min
    split <;> split <;> omega
  have hm : te_min (12 * R + C + (te_max p 1) - 1) (12 * R + 11) ≤ 12 * R + 11 := te_minLe _ _
  have hm2 : 12 * R + C ≤ te_min (12 * R + C + (te_max p 1) - 1) (12 * R + 11) + 1 := by
    unfold te_min
    split <;> omega
  rw [← e] at h
  refine te_yless (12 * R + C + (te_max p 1) - 1) (12 * R + 11) ?_ (te_iy11 R) (by omega) (by omega) ?_
  · rw [nI_add]
    exact te_ns1 (by omega)
  refine te_yempty (12 * R + C) (te_min (12 * R + C + (te_max p 1) - 1) (12 * R + 11)) rfl rfl hm2 (by omega) ?_
  exact h
theorem te_yr80 (hR : R < 6) (hC : C < 12) (hP : P < 8) (hTB : T ≤ B) (hB : B < 6) (hK : K ≤ 8) (hp : p ≤ 99) (hq : q ≤ 99) (hw : te_b01 wt) (hc : te_rg ce) (e0 : nu 0 = nI p) (e1 : nu 1 = nI q) : te_To (fun t => wpY_last t ((nI R), (nI C), (nI P), (nI T), (nI B), ins, wr, ot, wt, (nI SR), (nI SC), (nI SP), (nI AR), (nI AC), (nI AO), (nI AB), (nI K), 0, bg, 0, mn, ce, sh, aq, kp, nu) 80) ((nI R), (nI C), (nI P), (nI T), (nI B), ins, wr, ot, 0, (nI SR), (nI SC), (nI SP), (nI AR), (nI AC), (nI AO), (nI AB), (nI K), 0, bg, 0, mn, (te_mb ce (12 * R + C) (12 * R + 12) (te_max p 1)), sh, aq, kp, nu) := by
  obtain ⟨hn1, hn9⟩ := te_n1 p
  have hn := hn9 hp
  refine te_ylast (by decide) (by decide) (by decide) (by omega) e0 e1 (te_yk80 hw ?_)
  intro post h
  unfold wpY_cut
  refine nm_r (te_iy R C) ?_
  refine br_f (by decide) (br_f (by decide) (br_f (by decide) (br_f (by decide) (br_f (by decide) (br_t rfl ?_)))))
  refine te_ytakeOut (te_max p 1) rfl hR hC (by omega) ?_
  exact h
theorem te_yr64 (hR : R < 6) (hC : C < 12) (hP : P < 8) (hTB : T ≤ B) (hB : B < 6) (hK : K ≤ 8) (hp : p ≤ 99) (hq : q ≤ 99) (hw : te_b01 wt) (hc : te_rg ce) (e0 : nu 0 = nI p) (e1 : nu 1 = nI q) : te_To (fun t => wpY_last t ((nI R), (nI C), (nI P), (nI T), (nI B), ins, wr, ot, wt, (nI SR), (nI SC), (nI SP), (nI AR), (nI AC), (nI AO), (nI AB), (nI K), 0, bg, 0, mn, ce, sh, aq, kp, nu) 64) ((nI R), (nI C), (nI P), (nI T), (nI B), ins, wr, ot, 0, (nI SR), (nI SC), (nI SP), (nI AR), (nI AC), (nI AO), (nI AB), (nI K), 0, bg, 0, mn, (te_mo ce (12 * R + C) (12 * R + 12) (te_max p 1)), sh, aq, kp, nu) := by
  obtain ⟨hn1, hn9⟩ := te_n1 p
  have hn := hn9 hp
  refine te_ylast (by decide) (by decide) (by decide) (by omega) e0 e1 (te_yk64 hw ?_)
  intro post h
  unfold wpY_cut
  refine nm_r (te_iy R C) ?_
  refine br_f (by decide) (br_f (by decide) (br_f (by decide) (br_f (by decide) (br_f (by decide) (br_f (by decide) ?_)))))
  refine te_yputIn (te_max p 1) rfl hR hC (by omega) ?_
  exact h
theorem te_yr76 (hR : R < 6) (hC : C < 12) (hP : P < 8) (hTB : T ≤ B) (hB : B < 6) (hK : K ≤ 8) (hp : p ≤ 99) (hq : q ≤ 99) (hw : te_b01 wt) (hc : te_rg ce) (e0 : nu 0 = nI p) (e1 : nu 1 = nI q) (hT : T ≤ R) (hRB : R ≤ B) : te_To (fun t => wpY_last t ((nI R), (nI C), (nI P), (nI T), (nI B), ins, wr, ot, wt, (nI SR), (nI SC), (nI SP), (nI AR), (nI AC), (nI AO), (nI AB), (nI K), 0, bg, 0, mn, ce, sh, aq, kp, nu) 76) ((nI R), 0, (nI P), (nI T), (nI B), ins, wr, ot, 0, (nI SR), (nI SC), (nI SP), (nI AR), (nI AC), (nI AO), (nI AB), (nI K), 0, bg, 0, mn, (te_mo ce (12 * R) (12 * (B + 1)) (12 * (te_max p 1))), sh, aq, kp, nu) := by
  obtain ⟨hn1, hn9⟩ := te_n1 p
  have hn := hn9 hp
  refine te_ylast (by decide) (by decide) (by decide) (by omega) e0 e1 (te_yk76 hw ?_)
  intro post h
  unfold wpY_moveRows
  have H := te_ymL_L (cc := nI C) (R := R) (B := B) (n := (te_max p 1)) hRB hB (by omega) h (te_max p 1) 0 (by omega)
  rw [show 12 * 0 = 0 from rfl, te_mo0] at H
  exact (br_f (nI_nlt (by omega) (by omega)) (br_f (nI_nlt (by omega) (by omega)) (Exists.intro _ H)))
theorem te_yr77 (hR : R < 6) (hC : C < 12) (hP : P < 8) (hTB : T ≤ B) (hB : B < 6) (hK : K ≤ 8) (hp : p ≤ 99) (hq : q ≤ 99) (hw : te_b01 wt) (hc : te_rg ce) (e0 : nu 0 = nI p) (e1 : nu 1 = nI q) (hT : T ≤ R) (hRB : R ≤ B) : te_To (fun t => wpY_last t ((nI R), (nI C), (nI P), (nI T), (nI B), ins, wr, ot, wt, (nI SR), (nI SC), (nI SP), (nI AR), (nI AC), (nI AO), (nI AB), (nI K), 0, bg, 0, mn, ce, sh, aq, kp, nu) 77) ((nI R), 0, (nI P), (nI T), (nI B), ins, wr, ot, 0, (nI SR), (nI SC), (nI SP), (nI AR), (nI AC), (nI AO), (nI AB), (nI K), 0, bg, 0, mn, (te_mb ce (12 * R) (12 * (B + 1)) (12 * (te_max p 1))), sh, aq, kp, nu) := by
  obtain ⟨hn1, hn9⟩ := te_n1 p
  have hn := hn9 hp
  refine te_ylast (by decide) (by decide) (by decide) (by omega) e0 e1 (te_yk77 hw ?_)
  intro post h
  unfold wpY_moveRows
  have H := te_ymM_L (cc := nI C) (R := R) (B := B) (n := (te_max p 1)) hRB hB (by omega) h (te_max p 1) 0 (by omega)
  rw [show 12 * 0 = 0 from rfl, te_mb0] at H
  exact (br_f (nI_nlt (by omega) (by omega)) (br_f (nI_nlt (by omega) (by omega)) (Exists.intro _ H)))
theorem te_yr76o (hR : R < 6) (hC : C < 12) (hP : P < 8) (hTB : T ≤ B) (hB : B < 6) (hK : K ≤ 8) (hp : p ≤ 99) (hq : q ≤ 99) (hw : te_b01 wt) (hc : te_rg ce) (e0 : nu 0 = nI p) (e1 : nu 1 = nI q) (hO : R < T ∨ B < R) : te_To (fun t => wpY_last t ((nI R), (nI C), (nI P), (nI T), (nI B), ins, wr, ot, wt, (nI SR), (nI SC), (nI SP), (nI AR), (nI AC), (nI AO), (nI AB), (nI K), 0, bg, 0, mn, ce, sh, aq, kp, nu) 76) ((nI R), (nI C), (nI P), (nI T), (nI B), ins, wr, ot, 0, (nI SR), (nI SC), (nI SP), (nI AR), (nI AC), (nI AO), (nI AB), (nI K), 0, bg, 0, mn, ce, sh, aq, kp, nu) := by
  obtain ⟨hn1, hn9⟩ := te_n1 p
  have hn := hn9 hp
  refine te_ylast (by decide) (by decide) (by decide) (by omega) e0 e1 (te_yk76 hw ?_)
  intro post h
  unfold wpY_moveRows
  have H := te_ymO_L (x1 := 76) (x4 := nI R) (n := (te_max p 1)) (by decide) (by decide) (by omega) h (te_max p 1) 0 (by omega)
  by_cases h1 : R < T
  · exact br_t (nI_lt h1 (by omega)) (Exists.intro _ H)
  · exact br_f (nI_nlt (by omega) (by omega)) (br_t (nI_lt (by omega) (by omega)) (Exists.intro _ H))
theorem te_yr77o (hR : R < 6) (hC : C < 12) (hP : P < 8) (hTB : T ≤ B) (hB : B < 6) (hK : K ≤ 8) (hp : p ≤ 99) (hq : q ≤ 99) (hw : te_b01 wt) (hc : te_rg ce) (e0 : nu 0 = nI p) (e1 : nu 1 = nI q) (hO : R < T ∨ B < R) : te_To (fun t => wpY_last t ((nI R), (nI C), (nI P), (nI T), (nI B), ins, wr, ot, wt, (nI SR), (nI SC), (nI SP), (nI AR), (nI AC), (nI AO), (nI AB), (nI K), 0, bg, 0, mn, ce, sh, aq, kp, nu) 77) ((nI R), (nI C), (nI P), (nI T), (nI B), ins, wr, ot, 0, (nI SR), (nI SC), (nI SP), (nI AR), (nI AC), (nI AO), (nI AB), (nI K), 0, bg, 0, mn, ce, sh, aq, kp, nu) := by
  obtain ⟨hn1, hn9⟩ := te_n1 p
  have hn := hn9 hp
  refine te_ylast (by decide) (by decide) (by decide) (by omega) e0 e1 (te_yk77 hw ?_)
  intro post h
  unfold wpY_moveRows
  have H := te_ymO_L (x1 := 77) (x4 := nI R) (n := (te_max p 1)) (by decide) (by decide) (by omega) h (te_max p 1) 0 (by omega)
  by_cases h1 : R < T
  · exact br_t (nI_lt h1 (by omega)) (Exists.intro _ H)
  · exact br_f (nI_nlt (by omega) (by omega)) (br_t (nI_lt (by omega) (by omega)) (Exists.intro _ H))
theorem te_yr83 (hR : R < 6) (hC : C < 12) (hP : P < 8) (hTB : T ≤ B) (hB : B < 6) (hK : K ≤ 8) (hp : p ≤ 99) (hq : q ≤ 99) (hw : te_b01 wt) (hc : te_rg ce) (e0 : nu 0 = nI p) (e1 : nu 1 = nI q) : te_To (fun t => wpY_last t ((nI R), (nI C), (nI P), (nI T), (nI B), ins, wr, ot, wt, (nI SR), (nI SC), (nI SP), (nI AR), (nI AC), (nI AO), (nI AB), (nI K), 0, bg, 0, mn, ce, sh, aq, kp, nu) 83) ((nI R), (nI C), (nI P), (nI T), (nI B), ins, wr, ot, 0, (nI SR), (nI SC), (nI SP), (nI AR), (nI AC), (nI AO), (nI AB), (nI (te_sn (te_q ot T) T B (te_max p 1) K ce kp).1), 0, bg, 0, mn, ((te_sn (te_q ot T) T B (te_max p 1) K ce kp).2.1), sh, aq, ((te_sn (te_q ot T) T B (te_max p 1) K ce kp).2.2), nu) := by
  obtain ⟨hn1, hn9⟩ := te_n1 p
  have hn := hn9 hp
  refine te_ylast (by decide) (by decide) (by decide) (by omega) e0 e1 (te_yk83 hw ?_)
  intro post h
  unfold wpY_moveRows
  have H : ∀ x3 : Int32, te_b01 x3 → wY_moveRows_37 post 83 (nI (te_max p 1)) x3 (nI R) ((te_max p 1) + 1) (nI 0) (nI R) (nI C) (nI P) (nI T) (nI B) ins wr ot 0 (nI SR) (nI SC) (nI SP) (nI AR) (nI AC) (nI AO) (nI AB) (nI K) 0 bg 0 mn ce sh aq kp nu := fun x3 hb => te_ymS_L hb hTB hB (by omega) (te_max p 1) 0 K ce kp (by omega) hK hc h
  by_cases h1 : R < T
  · exact br_t (nI_lt h1 (by omega)) (Exists.intro _ (H 0 te_0))
  · by_cases h2 : B < R
    · exact br_f (nI_nlt (by omega) (by omega)) (br_t (nI_lt h2 (by omega)) (Exists.intro _ (H 0 te_0)))
    · exact br_f (nI_nlt (by omega) (by omega)) (br_f (nI_nlt (by omega) (by omega)) (Exists.intro _ (H 1 te_1)))
theorem te_yr84 (hR : R < 6) (hC : C < 12) (hP : P < 8) (hTB : T ≤ B) (hB : B < 6) (hK : K ≤ 8) (hp : p ≤ 99) (hq : q ≤ 99) (hw : te_b01 wt) (hc : te_rg ce) (e0 : nu 0 = nI p) (e1 : nu 1 = nI q) : te_To (fun t => wpY_last t ((nI R), (nI C), (nI P), (nI T), (nI B), ins, wr, ot, wt, (nI SR), (nI SC), (nI SP), (nI AR), (nI AC), (nI AO), (nI AB), (nI K), 0, bg, 0, mn, ce, sh, aq, kp, nu) 84) ((nI R), (nI C), (nI P), (nI T), (nI B), ins, wr, ot, 0, (nI SR), (nI SC), (nI SP), (nI AR), (nI AC), (nI AO), (nI AB), (nI K), 0, bg, 0, mn, (te_mo ce (12 * T) (12 * (B + 1)) (12 * (te_max p 1))), sh, aq, kp, nu) := by
  obtain ⟨hn1, hn9⟩ := te_n1 p
  have hn := hn9 hp
  refine te_ylast (by decide) (by decide) (by decide) (by omega) e0 e1 (te_yk84 hw ?_)
  intro post h
  unfold wpY_moveRows
  have H : ∀ x3 : Int32, te_b01 x3 → wY_moveRows_37 post 84 (nI (te_max p 1)) x3 (nI R) ((te_max p 1) + 1) (nI 0) (nI R) (nI C) (nI P) (nI T) (nI B) ins wr ot 0 (nI SR) (nI SC) (nI SP) (nI AR) (nI AC) (nI AO) (nI AB) (nI K) 0 bg 0 mn ce sh aq kp nu := by
    intro x3 hb
    have H := te_ymT_L (x3 := x3) (x4 := nI R) hTB hB (n := (te_max p 1)) (by omega) h (te_max p 1) 0 (by omega)
    rw [show 12 * 0 = 0 from rfl, te_mo0] at H
    exact H
  by_cases h1 : R < T
  · exact br_t (nI_lt h1 (by omega)) (Exists.intro _ (H 0 te_0))
  · by_cases h2 : B < R
    · exact br_f (nI_nlt (by omega) (by omega)) (br_t (nI_lt h2 (by omega)) (Exists.intro _ (H 0 te_0)))
    · exact br_f (nI_nlt (by omega) (by omega)) (br_f (nI_nlt (by omega) (by omega)) (Exists.intro _ (H 1 te_1)))
theorem te_yr114 (hR : R < 6) (hC : C < 12) (hP : P < 8) (hTB : T ≤ B) (hB : B < 6) (hK : K ≤ 8) (hp : p ≤ 99) (hq : q ≤ 99) (hw : te_b01 wt) (hc : te_rg ce) (e0 : nu 0 = nI p) (e1 : nu 1 = nI q) (h1 : (te_max p 1) < te_q6 q) (h6 : te_q6 q ≤ 6) : te_To (fun t => wpY_last t ((nI R), (nI C), (nI P), (nI T), (nI B), ins, wr, ot, wt, (nI SR), (nI SC), (nI SP), (nI AR), (nI AC), (nI AO), (nI AB), (nI K), 0, bg, 0, mn, ce, sh, aq, kp, nu) 114) (0, 0, (nI P), (nI ((te_max p 1) - 1)), (nI (te_q6 q - 1)), ins, wr, ot, 0, (nI SR), (nI SC), (nI SP), (nI AR), (nI AC), (nI AO), (nI AB), (nI K), 0, bg, 0, mn, ce, sh, aq, kp, nu) := by
  obtain ⟨hn1, hn9⟩ := te_n1 p
  have hn := hn9 hp
  refine te_ylast (by decide) (by decide) (by decide) (by omega) e0 e1 (te_yk114 hw (by omega) ?_)
  intro post h
  exact br_f (nI_ge h1 (by omega)) (br_f (nI_nlt (b := te_q6 q) (a := 6) h6 (by omega)) (nm_r (te_ns1 hn1) (nm_r (te_ns1 (by omega)) h)))
theorem te_yr114o (hR : R < 6) (hC : C < 12) (hP : P < 8) (hTB : T ≤ B) (hB : B < 6) (hK : K ≤ 8) (hp : p ≤ 99) (hq : q ≤ 99) (hw : te_b01 wt) (hc : te_rg ce) (e0 : nu 0 = nI p) (e1 : nu 1 = nI q) (hO : te_q6 q ≤ (te_max p 1) ∨ 6 < te_q6 q) : te_To (fun t => wpY_last t ((nI R), (nI C), (nI P), (nI T), (nI B), ins, wr, ot, wt, (nI SR), (nI SC), (nI SP), (nI AR), (nI AC), (nI AO), (nI AB), (nI K), 0, bg, 0, mn, ce, sh, aq, kp, nu) 114) ((nI R), (nI C), (nI P), (nI T), (nI B), ins, wr, ot, 0, (nI SR), (nI SC), (nI SP), (nI AR), (nI AC), (nI AO), (nI AB), (nI K), 0, bg, 0, mn, ce, sh, aq, kp, nu) := by
  obtain ⟨hn1, hn9⟩ := te_n1 p
  have hn := hn9 hp
  refine te_ylast (by decide) (by decide) (by decide) (by omega) e0 e1 (te_yk114 hw (by omega) ?_)
  intro post h
  have hq6 : te_q6 q ≤ 99 := by unfold te_q6; split <;> omega
  by_cases h1 : te_q6 q ≤ (te_max p 1)
  · exact br_t (nI_le h1 (by omega)) h
  · exact br_f (nI_ge (by omega) (by omega)) (br_t (nI_lt (a := 6) (by omega) (by omega)) h)
theorem te_yr104 (hR : R < 6) (hC : C < 12) (hP : P < 8) (hTB : T ≤ B) (hB : B < 6) (hK : K ≤ 8) (hp : p ≤ 99) (hq : q ≤ 99) (hw : te_b01 wt) (hc : te_rg ce) (e0 : nu 0 = nI p) (e1 : nu 1 = nI q) (hin : te_b01 ins) (hwr : te_b01 wr) (h4 : p = 4) : te_To (fun t => wpY_last t ((nI R), (nI C), (nI P), (nI T), (nI B), ins, wr, ot, wt, (nI SR), (nI SC), (nI SP), (nI AR), (nI AC), (nI AO), (nI AB), (nI K), 0, bg, 0, mn, ce, sh, aq, kp, nu) 104) ((nI R), (nI C), (nI P), (nI T), (nI B), 1, wr, ot, wt, (nI SR), (nI SC), (nI SP), (nI AR), (nI AC), (nI AO), (nI AB), (nI K), 0, bg, 0, mn, ce, sh, aq, kp, nu) := by
  intro post h
  refine nm_r e0 (br_t rfl (br_t rfl (br_t rfl (br_t (congrArg nI h4) ?_))))
  exact And.intro (te_nb te_1) (And.intro (te_fb te_1) (br_t rfl (And.intro (te_nb hwr) (And.intro (te_fb hwr) (br_t rfl h)))))
theorem te_yr104o (hR : R < 6) (hC : C < 12) (hP : P < 8) (hTB : T ≤ B) (hB : B < 6) (hK : K ≤ 8) (hp : p ≤ 99) (hq : q ≤ 99) (hw : te_b01 wt) (hc : te_rg ce) (e0 : nu 0 = nI p) (e1 : nu 1 = nI q) (hin : te_b01 ins) (hwr : te_b01 wr) (h4 : p ≠ 4) : te_To (fun t => wpY_last t ((nI R), (nI C), (nI P), (nI T), (nI B), ins, wr, ot, wt, (nI SR), (nI SC), (nI SP), (nI AR), (nI AC), (nI AO), (nI AB), (nI K), 0, bg, 0, mn, ce, sh, aq, kp, nu) 104) ((nI R), (nI C), (nI P), (nI T), (nI B), ins, wr, ot, wt, (nI SR), (nI SC), (nI SP), (nI AR), (nI AC), (nI AO), (nI AB), (nI K), 0, bg, 0, mn, ce, sh, aq, kp, nu) := by
  intro post h
  refine nm_r e0 (br_t rfl (br_t rfl (br_t rfl (br_f (te_ne (b := 4) h4 (by omega) (by omega)) ?_))))
  exact And.intro (te_nb hin) (And.intro (te_fb hin) (br_t rfl (And.intro (te_nb hwr) (And.intro (te_fb hwr) (br_t rfl h)))))
theorem te_yr108 (hR : R < 6) (hC : C < 12) (hP : P < 8) (hTB : T ≤ B) (hB : B < 6) (hK : K ≤ 8) (hp : p ≤ 99) (hq : q ≤ 99) (hw : te_b01 wt) (hc : te_rg ce) (e0 : nu 0 = nI p) (e1 : nu 1 = nI q) (hin : te_b01 ins) (hwr : te_b01 wr) (h4 : p = 4) : te_To (fun t => wpY_last t ((nI R), (nI C), (nI P), (nI T), (nI B), ins, wr, ot, wt, (nI SR), (nI SC), (nI SP), (nI AR), (nI AC), (nI AO), (nI AB), (nI K), 0, bg, 0, mn, ce, sh, aq, kp, nu) 108) ((nI R), (nI C), (nI P), (nI T), (nI B), 0, wr, ot, wt, (nI SR), (nI SC), (nI SP), (nI AR), (nI AC), (nI AO), (nI AB), (nI K), 0, bg, 0, mn, ce, sh, aq, kp, nu) := by
  intro post h
  refine nm_r e0 (br_f (by decide) (br_f (by decide) (br_t rfl (br_t rfl (br_t (congrArg nI h4) ?_)))))
  exact And.intro (te_nb te_0) (And.intro (te_fb te_0) (br_t rfl (And.intro (te_nb hwr) (And.intro (te_fb hwr) (br_t rfl h)))))
theorem te_yr108o (hR : R < 6) (hC : C < 12) (hP : P < 8) (hTB : T ≤ B) (hB : B < 6) (hK : K ≤ 8) (hp : p ≤ 99) (hq : q ≤ 99) (hw : te_b01 wt) (hc : te_rg ce) (e0 : nu 0 = nI p) (e1 : nu 1 = nI q) (hin : te_b01 ins) (hwr : te_b01 wr) (h4 : p ≠ 4) : te_To (fun t => wpY_last t ((nI R), (nI C), (nI P), (nI T), (nI B), ins, wr, ot, wt, (nI SR), (nI SC), (nI SP), (nI AR), (nI AC), (nI AO), (nI AB), (nI K), 0, bg, 0, mn, ce, sh, aq, kp, nu) 108) ((nI R), (nI C), (nI P), (nI T), (nI B), ins, wr, ot, wt, (nI SR), (nI SC), (nI SP), (nI AR), (nI AC), (nI AO), (nI AB), (nI K), 0, bg, 0, mn, ce, sh, aq, kp, nu) := by
  intro post h
  refine nm_r e0 (br_f (by decide) (br_f (by decide) (br_t rfl (br_t rfl (br_f (te_ne (b := 4) h4 (by omega) (by omega)) ?_)))))
  exact And.intro (te_nb hin) (And.intro (te_fb hin) (br_t rfl (And.intro (te_nb hwr) (And.intro (te_fb hwr) (br_t rfl h)))))
theorem te_yr109 {E : Nat} {v : Nat → Nat} (hR : R < 6) (hC : C < 12) (hP : P < 8) (hTB : T ≤ B) (hB : B < 6) (hK : K ≤ 8) (hp : p ≤ 99) (hq : q ≤ 99) (hw : te_b01 wt) (hc : te_rg ce) (e0 : nu 0 = nI p) (e1 : nu 1 = nI q) (hE : E ≤ 4) (hv : ∀ j, j < 4 → v j ≤ 99 ∧ nu j = nI (v j)) : te_To (fun t => wpY_last t ((nI R), (nI C), (nI P), (nI T), (nI B), ins, wr, ot, wt, (nI SR), (nI SC), (nI SP), (nI AR), (nI AC), (nI AO), (nI AB), (nI K), 0, bg, 0, (nI (E + 1)), ce, sh, aq, kp, nu) 109) ((nI R), (nI C), (nI (te_pp v (te_min (E + 1) 4) 0 P)), (nI T), (nI B), ins, wr, ot, wt, (nI SR), (nI SC), (nI SP), (nI AR), (nI AC), (nI AO), (nI AB), (nI K), 0, bg, 0, (nI (E + 1)), ce, sh, aq, kp, nu) := by
  intro post h
  refine nm_r e0 (br_f (by decide) (br_f (by decide) (br_f (by decide) (br_t rfl (br_t rfl ?_)))))
  exact Exists.intro _ (te_ylp_L hE hv (te_min (E + 1) 4) 0 P (by omega) hP h)
theorem te_yrN {x : Int32} (hR : R < 6) (hC : C < 12) (hP : P < 8) (hTB : T ≤ B) (hB : B < 6) (hK : K ≤ 8) (hp : p ≤ 99) (hq : q ≤ 99) (hw : te_b01 wt) (hc : te_rg ce) (e0 : nu 0 = nI p) (e1 : nu 1 = nI q) (h64 : ¬ x = 64) (h65 : ¬ x = 65) (h66 : ¬ x = 66) (h67 : ¬ x = 67) (h68 : ¬ x = 68) (h71 : ¬ x = 71) (h72 : ¬ x = 72) (h74 : ¬ x = 74) (h75 : ¬ x = 75) (h76 : ¬ x = 76) (h77 : ¬ x = 77) (h80 : ¬ x = 80) (h83 : ¬ x = 83) (h84 : ¬ x = 84) (h88 : ¬ x = 88) (h100 : ¬ x = 100) (h114 : ¬ x = 114) (h104 : ¬ x = 104) (h108 : ¬ x = 108) (h109 : ¬ x = 109) (hlo : ¬ x < 65 → ¬ x ≤ 68) : te_To (fun t => wpY_last t ((nI R), (nI C), (nI P), (nI T), (nI B), ins, wr, ot, wt, (nI SR), (nI SC), (nI SP), (nI AR), (nI AC), (nI AO), (nI AB), (nI K), 0, bg, 0, mn, ce, sh, aq, kp, nu) x) ((nI R), (nI C), (nI P), (nI T), (nI B), ins, wr, ot, wt, (nI SR), (nI SC), (nI SP), (nI AR), (nI AC), (nI AO), (nI AB), (nI K), 0, bg, 0, mn, ce, sh, aq, kp, nu) :=
  te_ylast h104 h108 h109 (by omega) e0 e1 (te_ykN hw h64 h65 h66 h67 h68 h71 h72 h74 h75 h76 h77 h80 h83 h84 h88 h100 h114 hlo)
end
