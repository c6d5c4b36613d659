/-! the reference: cells put in and taken out, the exchange, rows moved, the pen, what is shown -/
section
variable {post : SY → Prop} {r cc pn tp bo ins wr ot wt sr sc sp ar ac ao ab kc st bg mq mn : Int32} {ce sh aq kp nq : Nat → Int32}
theorem te_yless {pst : Int32 → Prop} {x y : Int32} (a b : Nat) (hx : x = nI a) (hy : y = nI b) (ha : a < 2 ^ 30) (hb : b < 2 ^ 30) (h : pst (nI (te_min a b))) : wpY_least pst (r, cc, pn, tp, bo, ins, wr, ot, wt, sr, sc, sp, ar, ac, ao, ab, kc, st, bg, mq, mn, ce, sh, aq, kp, nq) x y := by
  subst hx hy
  unfold wpY_least
  by_cases hc : b ≤ a
  · rw [te_minA hc] at h
    exact br_t (nI_le hc (by omega)) h
  · rw [te_minB hc] at h
    exact br_f (nI_ge (by omega) (by omega)) h
/-- one cell put in: p is where the loop stands -/
theorem te_ypi_L {J : Int32 → (Nat → Int32) → (Nat → Int32) → (Nat → Int32) → (Nat → Int32) → (Nat → Int32) → Prop} {x1 : Int32} {R C i : Nat} (hR : R < 6) (hC : C < 12) (h : J (nI (i + 1)) (te_mo ce (12 * R + C) (12 * R + 12) 1) sh aq kp nq) : ∀ g p : Nat, p = C + g → p < 12 → wY_putIn_16 post J x1 (nI i) (nI R) (nI C) pn tp bo ins wr ot wt sr sc sp ar ac ao ab kc st bg mq mn (g + 1) (nI p) (te_ri ce (12 * R + p) (12 * R + 12)) sh aq kp nq := by
  intro g
  induction g with
  | zero =>
    intro p hp hq
    obtain rfl : p = C := by omega
    refine br_t (nI_le (Nat.le_refl _) (by omega)) ⟨?_, nm_r ?_ (nm_r (nI_1 i) h)⟩
    · rw [te_iy]
      exact vp_in_nI (by omega) (by omega)
    · rw [te_iy, nI_clamp (by omega)]
      exact te_riE ce (by omega)
  | succ g ih =>
    intro p hp hq
    obtain ⟨q, rfl⟩ : ∃ q, p = q + 1 := ⟨p - 1, by omega⟩
    have e1 : 12 * nI R + nI (q + 1) - 1 = nI (12 * R + q) := by rw [te_iy]; exact nI_pred (12 * R + q)
    refine br_f (nI_ge (by omega) (by omega)) ⟨?_, ?_, nm_r ?_ (nm_r (pk_m1 q) (ih q (by omega) (by omega)))⟩
    · rw [e1]
      exact vp_in_nI (by omega) (by omega)
    · rw [te_iy]
      exact vp_in_nI (by omega) (by omega)
    · rw [e1, te_iy, nI_clamp (by omega), nI_clamp (by omega)]
      exact te_riS ce (p := 12 * R + q) (by omega)
theorem te_ypo_L {R C n : Nat} (hR : R < 6) (hC : C < 12) (hn : n < 1000) (h : post ((nI R), (nI C), pn, tp, bo, ins, wr, ot, wt, sr, sc, sp, ar, ac, ao, ab, kc, st, bg, mq, mn, (te_mo ce (12 * R + C) (12 * R + 12) (te_min n 12)), sh, aq, kp, nq)) : ∀ g i : Nat, i + g = te_min n 12 → wY_putIn_2 post (nI n) (nI R) (nI C) pn tp bo ins wr ot wt sr sc sp ar ac ao ab kc st bg mq mn (g + 1) (nI i) (te_mo ce (12 * R + C) (12 * R + 12) i) sh aq kp nq := by
  intro g
  induction g with
  | zero =>
    intro i hi
    obtain rfl : i = te_min n 12 := by omega
    by_cases h12 : n ≤ te_min n 12
    · have := te_minLe n 12
      exact br_t (nI_le h12 (by omega)) h
    · have e : te_min n 12 = 12 := by
        by_cases z : 12 ≤ n
        · exact te_minA z
        · rw [te_minB z] at h12; omega
      refine br_f (nI_ge (by omega) (by omega)) (br_t ?_ h)
      rw [e]
      exact nI_le (a := 12) (b := 12) (by omega) (by omega)
  | succ g ih =>
    intro i hi
    have hm : te_min n 12 ≤ 12 ∧ te_min n 12 ≤ n := by unfold te_min; split <;> omega
    refine br_f (nI_ge (by omega) (by omega)) (br_f (nI_ge (b := 12) (by omega) (by omega)) ?_)
    have H := ih (i + 1) (by omega)
    rw [← te_momo ce (12 * R + C) (12 * R + 12) i 1] at H
    have H2 := te_ypi_L (post := post) (pn := pn) (tp := tp) (bo := bo) (ins := ins) (wr := wr) (ot := ot) (wt := wt) (sr := sr) (sc := sc) (sp := sp) (ar := ar) (ac := ac) (ao := ao) (ab := ab) (kc := kc) (st := st) (bg := bg) (mq := mq) (mn := mn) (J := wY_putIn_2 post (nI n) (nI R) (nI C) pn tp bo ins wr ot wt sr sc sp ar ac ao ab kc st bg mq mn (g + 1)) (x1 := nI n) hR hC H (11 - C) 11 (by omega) (by omega)
    rw [te_ri0 _ (by omega)] at H2
    exact Exists.intro _ H2
theorem te_yputIn {R C : Nat} {x : Int32} (n : Nat) (hx : x = nI n) (hR : R < 6) (hC : C < 12) (hn : n < 1000) (h : post ((nI R), (nI C), pn, tp, bo, ins, wr, ot, wt, sr, sc, sp, ar, ac, ao, ab, kc, st, bg, mq, mn, (te_mo ce (12 * R + C) (12 * R + 12) n), sh, aq, kp, nq)) : wpY_putIn post ((nI R), (nI C), pn, tp, bo, ins, wr, ot, wt, sr, sc, sp, ar, ac, ao, ab, kc, st, bg, mq, mn, ce, sh, aq, kp, nq) x := by
  subst hx
  have e : te_mo ce (12 * R + C) (12 * R + 12) (te_min n 12) = te_mo ce (12 * R + C) (12 * R + 12) n := by
    by_cases z : 12 ≤ n
    · rw [te_minA z]; exact te_moX ce (by omega) (by omega)
    · rw [te_minB z]
  rw [← e] at h
  have H := te_ypo_L hR hC hn h (te_min n 12) 0 (by omega)
  rw [te_mo0] at H
  exact Exists.intro _ H
theorem te_yti_L {J : Int32 → (Nat → Int32) → (Nat → Int32) → (Nat → Int32) → (Nat → Int32) → (Nat → Int32) → Prop} {x1 : Int32} {R C i : Nat} (hR : R < 6) (h : J (nI (i + 1)) (te_mb ce (12 * R + C) (12 * R + 12) 1) sh aq kp nq) : ∀ g p : Nat, p + g = 11 → C ≤ p → wY_takeOut_18 post J x1 (nI i) (nI R) (nI C) pn tp bo ins wr ot wt sr sc sp ar ac ao ab kc st bg mq mn (g + 1) (nI p) (te_le ce (12 * R + C) (12 * R + p)) sh aq kp nq := by
  intro g
  induction g with
  | zero =>
    intro p hp hq
    obtain rfl : p = 11 := by omega
    refine br_t (nI_le (a := 11) (b := 11) (by omega) (by omega)) ⟨?_, nm_r ?_ (nm_r (nI_1 i) h)⟩
    · rw [te_iy11]
      exact vp_in_nI (by omega) (by omega)
    · rw [te_iy11, nI_clamp (by omega)]
      exact te_leE ce (by omega)
  | succ g ih =>
    intro p hp hq
    have e1 : 12 * nI R + nI p + 1 = nI (12 * R + p + 1) := by rw [te_iy, nI_1]
    refine br_f (nI_ge (b := 11) (by omega) (by omega)) ⟨?_, ?_, nm_r ?_ (nm_r (nI_1 p) (ih (p + 1) (by omega) (by omega)))⟩
    · rw [e1]
      exact vp_in_nI (by omega) (by omega)
    · rw [te_iy]
      exact vp_in_nI (by omega) (by omega)
    · rw [e1, te_iy, nI_clamp (by omega), nI_clamp (by omega)]
      exact te_leS ce (by omega)
theorem te_yto_L {R C n : Nat} (hR : R < 6) (hC : C < 12) (hn : n < 1000) (h : post ((nI R), (nI C), pn, tp, bo, ins, wr, ot, wt, sr, sc, sp, ar, ac, ao, ab, kc, st, bg, mq, mn, (te_mb ce (12 * R + C) (12 * R + 12) (te_min n 12)), sh, aq, kp, nq)) : ∀ g i : Nat, i + g = te_min n 12 → wY_takeOut_2 post (nI n) (nI R) (nI C) pn tp bo ins wr ot wt sr sc sp ar ac ao ab kc st bg mq mn (g + 1) (nI i) (te_mb ce (12 * R + C) (12 * R + 12) i) sh aq kp nq := by
  intro g
  induction g with
  | zero =>
    intro i hi
    obtain rfl : i = te_min n 12 := by omega
    by_cases h12 : n ≤ te_min n 12
    · have := te_minLe n 12
      exact br_t (nI_le h12 (by omega)) h
    · have e : te_min n 12 = 12 := by
        by_cases z : 12 ≤ n
        · exact te_minA z
        · rw [te_minB z] at h12; omega
      refine br_f (nI_ge (by omega) (by omega)) (br_t ?_ h)
      rw [e]
      exact nI_le (a := 12) (b := 12) (by omega) (by omega)
  | succ g ih =>
    intro i hi
    have hm : te_min n 12 ≤ 12 ∧ te_min n 12 ≤ n := by unfold te_min; split <;> omega
    refine br_f (nI_ge (by omega) (by omega)) (br_f (nI_ge (b := 12) (by omega) (by omega)) ?_)
    have H := ih (i + 1) (by omega)
    rw [← te_mbmb ce (12 * R + C) (12 * R + 12) i 1] at H
    have H2 := te_yti_L (post := post) (pn := pn) (tp := tp) (bo := bo) (ins := ins) (wr := wr) (ot := ot) (wt := wt) (sr := sr) (sc := sc) (sp := sp) (ar := ar) (ac := ac) (ao := ao) (ab := ab) (kc := kc) (st := st) (bg := bg) (mq := mq) (mn := mn) (J := wY_takeOut_2 post (nI n) (nI R) (nI C) pn tp bo ins wr ot wt sr sc sp ar ac ao ab kc st bg mq mn (g + 1)) (x1 := nI n) hR H (11 - C) C (by omega) (Nat.le_refl _)
    rw [te_le0] at H2
    exact Exists.intro _ H2
theorem te_ytakeOut {R C : Nat} {x : Int32} (n : Nat) (hx : x = nI n) (hR : R < 6) (hC : C < 12) (hn : n < 1000) (h : post ((nI R), (nI C), pn, tp, bo, ins, wr, ot, wt, sr, sc, sp, ar, ac, ao, ab, kc, st, bg, mq, mn, (te_mb ce (12 * R + C) (12 * R + 12) n), sh, aq, kp, nq)) : wpY_takeOut post ((nI R), (nI C), pn, tp, bo, ins, wr, ot, wt, sr, sc, sp, ar, ac, ao, ab, kc, st, bg, mq, mn, ce, sh, aq, kp, nq) x := by
  subst hx
  have e : te_mb ce (12 * R + C) (12 * R + 12) (te_min n 12) = te_mb ce (12 * R + C) (12 * R + 12) n := by
    by_cases z : 12 ≤ n
    · rw [te_minA z]; exact te_mbX ce (by omega) (by omega)
    · rw [te_minB z]
  rw [← e] at h
  have H := te_yto_L hR hC hn h (te_min n 12) 0 (by omega)
  rw [te_mb0] at H
  exact Exists.intro _ H
/-- OTHER switched on -/
theorem te_yx1_L (h : post (0, 0, pn, 0, 5, ins, wr, ot, wt, sr, sc, sp, r, cc, tp, bo, kc, st, bg, mq, mn, (te_cl ce 0 72), sh, (te_cp ce aq 72), kp, nq)) : ∀ g p : Nat, p + g = 72 → wY_exchange_7 post 1 r cc pn tp bo ins wr ot wt sr sc sp ar ac ao ab kc st bg mq mn (g + 1) (nI p) (te_cl ce 0 p) sh (te_cp ce aq p) kp nq := by
  intro g
  induction g with
  | zero =>
    intro p hp
    obtain rfl : p = 72 := by omega
    refine br_t (nI_le (a := 72) (b := 72) (by omega) (by omega)) (br_f te_10 ?_)
    exact br_f te_10 (br_f te_10 (br_f te_10 (br_f te_10 h)))
  | succ g ih =>
    intro p hp
    refine br_f (nI_ge (b := 72) (by omega) (by omega)) (br_f te_10 ?_)
    refine ⟨vp_in_nI (by omega) (by omega), vp_in_nI (by omega) (by omega), nm_r ?_ ⟨vp_in_nI (by omega) (by omega), nm_r ?_ (nm_r (nI_1 p) (ih (p + 1) (by omega)))⟩⟩
    · rw [nI_clamp (by omega), te_clP]
      exact te_cpS ce aq p
    · rw [nI_clamp (by omega)]
      exact te_clS ce (Nat.zero_le p)
theorem te_yexchange1 (h : post (0, 0, pn, 0, 5, ins, wr, 1, wt, sr, sc, sp, r, cc, tp, bo, kc, st, bg, mq, mn, (te_cl ce 0 72), sh, (te_cp ce aq 72), kp, nq)) : wpY_exchange post (r, cc, pn, tp, bo, ins, wr, ot, wt, sr, sc, sp, ar, ac, ao, ab, kc, st, bg, mq, mn, ce, sh, aq, kp, nq) 1 := by
  unfold wpY_exchange
  refine ⟨te_nb te_1, te_fb te_1, ?_⟩
  have H := te_yx1_L (ar := ar) (ac := ac) (ao := ao) (ab := ab) h 72 0 rfl
  rw [te_cl0 ce (Nat.le_refl 0), te_cp0] at H
  exact Exists.intro _ H
/-- OTHER switched off -/
theorem te_yx0_L (h : post (ar, ac, pn, ao, ab, ins, wr, ot, wt, sr, sc, sp, ar, ac, ao, ab, kc, st, bg, mq, mn, (te_cp aq ce 72), sh, (te_cp ce aq 72), kp, nq)) : ∀ g p : Nat, p + g = 72 → wY_exchange_7 post 0 r cc pn tp bo ins wr ot wt sr sc sp ar ac ao ab kc st bg mq mn (g + 1) (nI p) (te_cp aq ce p) sh (te_cp ce aq p) kp nq := by
  intro g
  induction g with
  | zero =>
    intro p hp
    obtain rfl : p = 72 := by omega
    refine br_t (nI_le (a := 72) (b := 72) (by omega) (by omega)) (br_t rfl ?_)
    exact br_t rfl (br_t rfl (br_t rfl (br_t rfl h)))
  | succ g ih =>
    intro p hp
    refine br_f (nI_ge (b := 72) (by omega) (by omega)) (br_t rfl ⟨vp_in_nI (by omega) (by omega), ?_⟩)
    refine ⟨vp_in_nI (by omega) (by omega), vp_in_nI (by omega) (by omega), nm_r ?_ ⟨vp_in_nI (by omega) (by omega), nm_r ?_ (nm_r (nI_1 p) (ih (p + 1) (by omega)))⟩⟩
    · rw [nI_clamp (by omega), te_cpJ]
      exact te_cpS ce aq p
    · rw [nI_clamp (by omega), te_cpJ]
      exact te_cpS aq ce p
theorem te_yexchange0 (h : post (ar, ac, pn, ao, ab, ins, wr, 0, wt, sr, sc, sp, ar, ac, ao, ab, kc, st, bg, mq, mn, (te_cp aq ce 72), sh, (te_cp ce aq 72), kp, nq)) : wpY_exchange post (r, cc, pn, tp, bo, ins, wr, ot, wt, sr, sc, sp, ar, ac, ao, ab, kc, st, bg, mq, mn, ce, sh, aq, kp, nq) 0 := by
  unfold wpY_exchange
  refine ⟨te_nb te_0, te_fb te_0, ?_⟩
  have H := te_yx0_L (r := r) (cc := cc) (tp := tp) (bo := bo) h 72 0 rfl
  rw [te_cp0, te_cp0] at H
  exact Exists.intro _ H
/-- S: n times up -/
theorem te_ymS_L {x3 x4 : Int32} {T B n : Nat} (hb3 : te_b01 x3) (hTB : T ≤ B) (hB : B < 6) (hn : n < 1000) : ∀ (g i K : Nat) (c k : Nat → Int32), i + g = n → K ≤ 8 → te_rg c → post (r, cc, pn, (nI T), (nI B), ins, wr, ot, wt, sr, sc, sp, ar, ac, ao, ab, (nI (te_sn (te_q ot T) T B g K c k).1), st, bg, mq, mn, ((te_sn (te_q ot T) T B g K c k).2.1), sh, aq, ((te_sn (te_q ot T) T B g K c k).2.2), nq) → wY_moveRows_37 post 83 (nI n) x3 x4 (g + 1) (nI i) r cc pn (nI T) (nI B) ins wr ot wt sr sc sp ar ac ao ab (nI K) st bg mq mn c sh aq k nq := by
  intro g
  induction g with
  | zero =>
    intro i K c k hi hK hc h
    obtain rfl : i = n := by omega
    refine br_t (nI_le (Nat.le_refl _) (by omega)) ?_
    exact br_c (fun _ => h) (fun _ => br_f (by decide) (br_f (by decide) h))
  | succ g ih =>
    intro i K c k hi hK hc h
    refine br_f (nI_ge (by omega) (by omega)) (br_t rfl ?_)
    refine te_yscrollUp hTB hB hK hc ?_
    refine nm_r (nI_1 i) (ih (i + 1) (te_sn (te_q ot T) T B 1 K c k).1 (te_sn (te_q ot T) T B 1 K c k).2.1 (te_sn (te_q ot T) T B 1 K c k).2.2 (by omega) ?_ ?_ h)
    · exact (te_snOk 1 K c k hK hc).1
    · exact (te_snOk 1 K c k hK hc).2
/-- T: n times down -/
theorem te_ymT_L {x3 x4 : Int32} {T B n : Nat} (hTB : T ≤ B) (hB : B < 6) (hn : n < 1000) (h : post (r, cc, pn, (nI T), (nI B), ins, wr, ot, wt, sr, sc, sp, ar, ac, ao, ab, kc, st, bg, mq, mn, (te_mo ce (12 * T) (12 * (B + 1)) (12 * n)), sh, aq, kp, nq)) : ∀ g i : Nat, i + g = n → wY_moveRows_37 post 84 (nI n) x3 x4 (g + 1) (nI i) r cc pn (nI T) (nI B) ins wr ot wt sr sc sp ar ac ao ab kc st bg mq mn (te_mo ce (12 * T) (12 * (B + 1)) (12 * i)) sh aq kp nq := by
  intro g
  induction g with
  | zero =>
    intro i hi
    obtain rfl : i = n := by omega
    refine br_t (nI_le (Nat.le_refl _) (by omega)) ?_
    exact br_c (fun _ => h) (fun _ => br_f (by decide) (br_f (by decide) h))
  | succ g ih =>
    intro i hi
    refine br_f (nI_ge (by omega) (by omega)) (br_f (by decide) (br_t rfl ?_))
    refine te_yrowsDown T B rfl rfl hTB hB ?_
    rw [te_momo, show 12 * i + 12 = 12 * (i + 1) from by omega]
    exact nm_r (nI_1 i) (ih (i + 1) (by omega))
/-- L in the region -/
theorem te_ymL_L {R B n : Nat} (hRB : R ≤ B) (hB : B < 6) (hn : n < 1000) (h : post (r, 0, pn, tp, (nI B), ins, wr, ot, wt, sr, sc, sp, ar, ac, ao, ab, kc, st, bg, mq, mn, (te_mo ce (12 * R) (12 * (B + 1)) (12 * n)), sh, aq, kp, nq)) : ∀ g i : Nat, i + g = n → wY_moveRows_37 post 76 (nI n) 1 (nI R) (g + 1) (nI i) r cc pn tp (nI B) ins wr ot wt sr sc sp ar ac ao ab kc st bg mq mn (te_mo ce (12 * R) (12 * (B + 1)) (12 * i)) sh aq kp nq := by
  intro g
  induction g with
  | zero =>
    intro i hi
    obtain rfl : i = n := by omega
    exact br_t (nI_le (Nat.le_refl _) (by omega)) (br_f te_10 (br_t rfl h))
  | succ g ih =>
    intro i hi
    refine br_f (nI_ge (by omega) (by omega)) (br_f (by decide) (br_f (by decide) (br_f te_10 (br_t rfl ?_))))
    refine te_yrowsDown R B rfl rfl hRB hB ?_
    rw [te_momo, show 12 * i + 12 = 12 * (i + 1) from by omega]
    exact nm_r (nI_1 i) (ih (i + 1) (by omega))
/-- M in the region -/
theorem te_ymM_L {R B n : Nat} (hRB : R ≤ B) (hB : B < 6) (hn : n < 1000) (h : post (r, 0, pn, tp, (nI B), ins, wr, ot, wt, sr, sc, sp, ar, ac, ao, ab, kc, st, bg, mq, mn, (te_mb ce (12 * R) (12 * (B + 1)) (12 * n)), sh, aq, kp, nq)) : ∀ g i : Nat, i + g = n → wY_moveRows_37 post 77 (nI n) 1 (nI R) (g + 1) (nI i) r cc pn tp (nI B) ins wr ot wt sr sc sp ar ac ao ab kc st bg mq mn (te_mb ce (12 * R) (12 * (B + 1)) (12 * i)) sh aq kp nq := by
  intro g
  induction g with
  | zero =>
    intro i hi
    obtain rfl : i = n := by omega
    exact br_t (nI_le (Nat.le_refl _) (by omega)) (br_f te_10 (br_f (by decide) (br_t rfl h)))
  | succ g ih =>
    intro i hi
    refine br_f (nI_ge (by omega) (by omega)) (br_f (by decide) (br_f (by decide) (br_f te_10 (br_f (by decide) ?_))))
    unfold wY_moveRows_100
    refine br_f te_10 ?_
    refine te_yrowsUp R B rfl rfl hRB hB ?_
    rw [te_mbmb, show 12 * i + 12 = 12 * (i + 1) from by omega]
    exact nm_r (nI_1 i) (ih (i + 1) (by omega))
/-- L and M outside of the region -/
theorem te_ymO_L {x1 x4 : Int32} {n : Nat} (h83 : ¬ x1 = 83) (h84 : ¬ x1 = 84) (hn : n < 1000) (h : post (r, cc, pn, tp, bo, ins, wr, ot, wt, sr, sc, sp, ar, ac, ao, ab, kc, st, bg, mq, mn, ce, sh, aq, kp, nq)) : ∀ g i : Nat, i + g = n → wY_moveRows_37 post x1 (nI n) 0 x4 (g + 1) (nI i) r cc pn tp bo ins wr ot wt sr sc sp ar ac ao ab kc st bg mq mn ce sh aq kp nq := by
  intro g
  induction g with
  | zero =>
    intro i hi
    obtain rfl : i = n := by omega
    exact br_t (nI_le (Nat.le_refl _) (by omega)) (br_t rfl h)
  | succ g ih =>
    intro i hi
    refine br_f (nI_ge (by omega) (by omega)) (br_f h83 (br_f h84 (br_t rfl ?_)))
    unfold wY_moveRows_100
    exact br_t rfl (nm_r (nI_1 i) (ih (i + 1) (by omega)))
/-- one number of m -/
theorem te_ypaint {P v : Nat} (hP : P < 8) (hv : v ≤ 99) (h : post (r, cc, (nI (te_pv P v)), tp, bo, ins, wr, ot, wt, sr, sc, sp, ar, ac, ao, ab, kc, st, bg, mq, mn, ce, sh, aq, kp, nq)) : wpY_paint post (r, cc, (nI P), tp, bo, ins, wr, ot, wt, sr, sc, sp, ar, ac, ao, ab, kc, st, bg, mq, mn, ce, sh, aq, kp, nq) (nI v) := by
  unfold wpY_paint
  obtain ⟨t1, t2, t4, -, -, -, t22, t24, t27⟩ := te_pvT ⟨P, hP⟩
  unfold te_pv at h
  by_cases h0 : v = 0
  · rw [if_pos h0] at h
    exact br_t (by rw [h0, nI_0]) h
  rw [if_neg h0] at h
  refine br_f (te_ne (b := 0) h0 (by omega) (by omega)) ?_
  by_cases h1 : v = 1
  · rw [if_pos h1] at h
    exact br_t (congrArg nI h1) (nm_r t1 h)
  rw [if_neg h1] at h
  refine br_f (te_ne (b := 1) h1 (by omega) (by omega)) ?_
  by_cases h4 : v = 4
  · rw [if_pos h4] at h
    exact br_t (congrArg nI h4) (nm_r t2 h)
  rw [if_neg h4] at h
  refine br_f (te_ne (b := 4) h4 (by omega) (by omega)) ?_
  by_cases h7 : v = 7
  · rw [if_pos h7] at h
    exact br_t (congrArg nI h7) (nm_r t4 h)
  rw [if_neg h7] at h
  refine br_f (te_ne (b := 7) h7 (by omega) (by omega)) ?_
  by_cases h22 : v = 22
  · rw [if_pos h22] at h
    exact br_t (congrArg nI h22) (nm_r t22 h)
  rw [if_neg h22] at h
  refine br_f (te_ne (b := 22) h22 (by omega) (by omega)) ?_
  by_cases h24 : v = 24
  · rw [if_pos h24] at h
    exact br_t (congrArg nI h24) (nm_r t24 h)
  rw [if_neg h24] at h
  refine br_f (te_ne (b := 24) h24 (by omega) (by omega)) ?_
  by_cases h27 : v = 27
  · rw [if_pos h27] at h
    exact br_t (congrArg nI h27) (nm_r t27 h)
  rw [if_neg h27] at h
  exact br_f (te_ne (b := 27) h27 (by omega) (by omega)) h
theorem te_ylp_L {E : Nat} {v : Nat → Nat} (hE : E ≤ 4) (hv : ∀ j, j < 4 → v j ≤ 99 ∧ nq j = nI (v j)) : ∀ g i P : Nat, i + g = te_min (E + 1) 4 → P < 8 → post (r, cc, (nI (te_pp v g i P)), tp, bo, ins, wr, ot, wt, sr, sc, sp, ar, ac, ao, ab, kc, st, bg, mq, (nI (E + 1)), ce, sh, aq, kp, nq) → wY_last_130 post (g + 1) (nI i) r cc (nI P) tp bo ins wr ot wt sr sc sp ar ac ao ab kc st bg mq (nI (E + 1)) ce sh aq kp nq := by
  intro g
  induction g with
  | zero =>
    intro i P hi hP h
    obtain rfl : i = te_min (E + 1) 4 := by omega
    by_cases h4 : 4 ≤ E + 1
    · rw [te_minA h4]
      refine br_c (fun _ => h) (fun _ => br_t (nI_le (a := 4) (b := 4) (by omega) (by omega)) h)
    · rw [te_minB h4]
      exact br_t (nI_le (Nat.le_refl _) (by omega)) h
  | succ g ih =>
    intro i P hi hP h
    have hm : te_min (E + 1) 4 ≤ 4 ∧ te_min (E + 1) 4 ≤ E + 1 := by unfold te_min; split <;> omega
    obtain ⟨hv9, ev⟩ := hv i (by omega)
    refine br_f (nI_ge (by omega) (by omega)) (br_f (nI_ge (b := 4) (by omega) (by omega)) ⟨vp_in_nI (by omega) (by omega), ?_⟩)
    rw [nI_clamp (by omega), ev]
    refine te_ypaint hP hv9 ?_
    exact nm_r (nI_1 i) (ih (i + 1) (te_pv P (v i)) (by omega) (te_pv8 hP) h)
theorem te_yst_L {pst : Int32 → Prop} (h : pst (nI (te_ct ce sh 72))) : ∀ g p : Nat, p + g = 72 → wY_stale_4 pst r cc pn tp bo ins wr ot wt sr sc sp ar ac ao ab kc st bg mq mn ce sh aq kp nq (g + 1) (nI (te_ct ce sh p)) (nI p) := by
  intro g
  induction g with
  | zero =>
    intro p hp
    obtain rfl : p = 72 := by omega
    exact br_t (nI_le (a := 72) (b := 72) (by omega) (by omega)) h
  | succ g ih =>
    intro p hp
    have H := ih (p + 1) (by omega)
    refine br_f (nI_ge (b := 72) (by omega) (by omega)) ⟨vp_in_nI (by omega) (by omega), vp_in_nI (by omega) (by omega), ?_⟩
    rw [nI_clamp (by omega)]
    by_cases hc : ce p = sh p
    · have e : te_ct ce sh (p + 1) = te_ct ce sh p := by
        simp only [te_ct, if_pos hc, Nat.add_zero]
      rw [e] at H
      exact br_t hc (nm_r (nI_1 p) H)
    · have e : te_ct ce sh (p + 1) = te_ct ce sh p + 1 := by
        simp only [te_ct, if_neg hc]
      rw [e] at H
      exact br_f hc (nm_r (nI_1 _) (nm_r (nI_1 p) H))
theorem te_ystale {pst : Int32 → Prop} (h : pst (nI (te_ct ce sh 72))) : wpY_stale pst (r, cc, pn, tp, bo, ins, wr, ot, wt, sr, sc, sp, ar, ac, ao, ab, kc, st, bg, mq, mn, ce, sh, aq, kp, nq) := Exists.intro _ (te_yst_L h 72 0 rfl)
theorem te_yrf_L {pst : Int32 → SY → Prop} {x1 : Int32} (h : pst x1 (r, cc, pn, tp, bo, ins, wr, ot, wt, sr, sc, sp, ar, ac, ao, ab, kc, st, bg, mq, mn, ce, (te_cp ce sh 72), aq, kp, nq)) : ∀ g p : Nat, p + g = 72 → wY_refresh_7 pst x1 r cc pn tp bo ins wr ot wt sr sc sp ar ac ao ab kc st bg mq mn (g + 1) (nI p) ce (te_cp ce sh p) aq kp nq := by
  intro g
  induction g with
  | zero =>
    intro p hp
    obtain rfl : p = 72 := by omega
    exact br_t (nI_le (a := 72) (b := 72) (by omega) (by omega)) h
  | succ g ih =>
    intro p hp
    refine br_f (nI_ge (b := 72) (by omega) (by omega)) ⟨vp_in_nI (by omega) (by omega), vp_in_nI (by omega) (by omega), nm_r ?_ (nm_r (nI_1 p) (ih (p + 1) (by omega)))⟩
    rw [nI_clamp (by omega)]
    exact te_cpS ce sh p
theorem te_yrefresh {pst : Int32 → SY → Prop} (h : pst (nI (te_ct ce sh 72)) (r, cc, pn, tp, bo, ins, wr, ot, wt, sr, sc, sp, ar, ac, ao, ab, kc, st, bg, mq, mn, ce, (te_cp ce sh 72), aq, kp, nq)) : wpY_refresh pst (r, cc, pn, tp, bo, ins, wr, ot, wt, sr, sc, sp, ar, ac, ao, ab, kc, st, bg, mq, mn, ce, sh, aq, kp, nq) := by
  unfold wpY_refresh
  refine te_ystale ?_
  have H := te_yrf_L h 72 0 rfl
  rw [te_cp0] at H
  exact Exists.intro _ H
end
