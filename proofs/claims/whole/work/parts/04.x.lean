/-! the component's methods, each with a general post -/
section
variable {post : SX → Prop} {r cc pn tp bo ins wr ot wt sr sc sp ar ac ao ab kc st ma mk se : Int32} {ce ad sh kp nu : Nat → Int32}
theorem te_xless {pst : Int32 → Prop} {x y : Int32} (a b : Nat) (hx : x = nI a) (hy : y = nI b) (ha : a < 2 ^ 30) (hb : b < 2 ^ 30) (h : pst (nI (te_min a b))) : wpX_lesser pst x y := by
  subst hx hy
  by_cases hc : b ≤ a
  · rw [te_minA hc] at h
    exact br_t (nI_le hc (by omega)) h
  · rw [te_minB hc] at h
    exact br_f (nI_ge (by omega) (by omega)) h
theorem te_xgreat {pst : Int32 → Prop} {x y : Int32} (a b : Nat) (hx : x = nI a) (hy : y = nI b) (ha : a < 2 ^ 30) (hb : b < 2 ^ 30) (h : pst (nI (te_max a b))) : wpX_greater pst x y := by
  subst hx hy
  unfold te_max at h
  by_cases hc : a ≤ b
  · rw [if_pos hc] at h
    exact br_t (nI_le hc (by omega)) h
  · rw [if_neg hc] at h
    exact br_f (nI_ge (by omega) (by omega)) h
theorem te_xgreatS {pst : Int32 → Prop} {x y : Int32} (a n b : Nat) (hx : x = nI a - nI n) (hy : y = nI b) (ha : a < 2 ^ 30) (hn : n < 2 ^ 30) (hb : b < 2 ^ 30) (h : pst (nI (te_dec a n b))) : wpX_greater pst x y := by
  subst hx hy
  unfold te_dec at h
  by_cases hc : a ≤ b + n
  · rw [if_pos hc] at h
    exact br_t ((te_subLe ha hn hb).mpr hc) h
  · rw [if_neg hc] at h
    refine br_f (fun z => hc ((te_subLe ha hn hb).mp z)) ?_
    rw [te_nsub (by omega)]
    exact h
theorem te_xcl_L {s e : Nat} (he : e ≤ 72) (h : post (r, cc, pn, tp, bo, ins, wr, ot, wt, sr, sc, sp, ar, ac, ao, ab, kc, st, ma, mk, se, (te_cl ce s e), ad, sh, kp, nu)) : ∀ g p : Nat, p + g = e → s ≤ p → wX_clear_2 post (nI e) r cc pn tp bo ins wr ot wt sr sc sp ar ac ao ab kc st ma mk se (g + 1) (nI p) (te_cl ce s p) ad sh kp nu := by
  intro g
  induction g with
  | zero =>
    intro p hp hs
    obtain rfl : p = e := by omega
    exact br_t (nI_le (Nat.le_refl _) (by omega)) h
  | succ g ih =>
    intro p hp hs
    refine br_f (nI_ge (by omega) (by omega)) ⟨vp_in_nI (by omega) (by omega), nm_r ?_ (nm_r (nI_1 p) (ih (p + 1) (by omega) (by omega)))⟩
    rw [nI_clamp (by omega)]
    exact te_clS ce hs
theorem te_xclear {x y : Int32} (s e : Nat) (hx : x = nI s) (hy : y = nI e) (hse : s ≤ e) (he : e ≤ 72) (h : post (r, cc, pn, tp, bo, ins, wr, ot, wt, sr, sc, sp, ar, ac, ao, ab, kc, st, ma, mk, se, (te_cl ce s e), ad, sh, kp, nu)) : wpX_clear post (r, cc, pn, tp, bo, ins, wr, ot, wt, sr, sc, sp, ar, ac, ao, ab, kc, st, ma, mk, se, ce, ad, sh, kp, nu) x y := by
  subst hx hy
  have H := te_xcl_L (s := s) he h (e - s) s (by omega) (Nat.le_refl _)
  rw [te_cl0 ce (Nat.le_refl s)] at H
  exact Exists.intro _ H
theorem te_xstart (h : post (0, 0, 0, 0, 5, 0, 1, 0, 0, 0, 0, 0, ar, ac, ao, ab, 0, 0, ma, mk, se, (te_cl ce 0 72), ad, sh, kp, nu)) : wpX_startAnew post (r, cc, pn, tp, bo, ins, wr, ot, wt, sr, sc, sp, ar, ac, ao, ab, kc, st, ma, mk, se, ce, ad, sh, kp, nu) := by
  unfold wpX_startAnew
  exact te_xclear 0 72 rfl rfl (by omega) (by omega) h
theorem te_xin_L (h : post (r, cc, pn, tp, bo, ins, wr, ot, wt, sr, sc, sp, ar, ac, ao, ab, kc, st, ma, mk, se, ce, ad, (te_cl sh 0 72), kp, nu)) : ∀ g p : Nat, p + g = 72 → wX_init_49 post r cc pn tp bo ins wr ot wt sr sc sp ar ac ao ab kc st ma mk se (g + 1) (nI p) ce ad (te_cl sh 0 p) kp nu := by
  intro g
  induction g with
  | zero =>
    intro p hp
    obtain rfl : p = 72 := by omega
    exact br_t (nI_le (a := 72) (b := 72) (by omega) (by omega)) h
  | succ g ih =>
    intro p hp
    refine br_f (nI_ge (b := 72) (by omega) (by omega)) ⟨vp_in_nI (by omega) (by omega), nm_r ?_ (nm_r (nI_1 p) (ih (p + 1) (by omega)))⟩
    rw [nI_clamp (by omega)]
    exact te_clS sh (Nat.zero_le p)
theorem te_xinit (h : post (0, 0, 0, 0, 5, 0, 1, 0, 0, 0, 0, 0, 0, 0, 0, 0, 0, 0, 0, 0, 0, (te_cl (fun _ => 0) 0 72), (fun _ => 0), (te_cl (fun _ => 0) 0 72), (fun _ => 0), (fun _ => 0))) : wpX_init post := by
  unfold wpX_init
  refine te_xstart ?_
  have H := te_xin_L (sh := fun _ => 0) h 72 0 rfl
  rw [te_cl0 (fun _ => 0) (Nat.le_refl 0)] at H
  exact Exists.intro _ H
theorem te_xop_L (h : post (r, cc, pn, tp, bo, ins, wr, ot, wt, sr, sc, sp, ar, ac, ao, ab, kc, st, ma, mk, se, ce, ad, sh, kp, (te_zr nu 4))) : ∀ g p : Nat, p + g = 4 → wX_openSequence_22 post r cc pn tp bo ins wr ot wt sr sc sp ar ac ao ab kc st ma mk se (g + 1) (nI p) ce ad sh kp (te_zr nu p) := by
  intro g
  induction g with
  | zero =>
    intro p hp
    obtain rfl : p = 4 := by omega
    exact br_t (nI_le (a := 4) (b := 4) (by omega) (by omega)) h
  | succ g ih =>
    intro p hp
    refine br_f (nI_ge (b := 4) (by omega) (by omega)) ⟨vp_in_nI (by omega) (by omega), nm_r ?_ (nm_r (nI_1 p) (ih (p + 1) (by omega)))⟩
    rw [nI_clamp (by omega)]
    exact te_zrS nu p
theorem te_xopen (h : post (r, cc, pn, tp, bo, ins, wr, ot, wt, sr, sc, sp, ar, ac, ao, ab, kc, 2, 1, 0, 0, ce, ad, sh, kp, (te_zr nu 4))) : wpX_openSequence post (r, cc, pn, tp, bo, ins, wr, ot, wt, sr, sc, sp, ar, ac, ao, ab, kc, st, ma, mk, se, ce, ad, sh, kp, nu) := by
  have H := te_xop_L h 4 0 rfl
  rw [te_zr0] at H
  exact Exists.intro _ H
theorem te_xk2_L {K : Nat} (hK : K ≤ 8) (h : post (r, cc, pn, tp, bo, ins, wr, ot, wt, sr, sc, sp, ar, ac, ao, ab, (nI (te_k8 K)), st, ma, mk, se, ce, ad, sh, (te_kf kp ce 12), nu)) : ∀ g p : Nat, p + g = 12 → wX_keepFirstRow_32 post r cc pn tp bo ins wr ot wt sr sc sp ar ac ao ab (nI K) st ma mk se (g + 1) (nI p) ce ad sh (te_kf kp ce p) nu := by
  intro g
  induction g with
  | zero =>
    intro p hp
    obtain rfl : p = 12 := by omega
    refine br_t (nI_le (a := 12) (b := 12) (by omega) (by omega)) ?_
    unfold te_k8 at h
    by_cases h8 : 8 ≤ K
    · obtain rfl : K = 8 := by omega
      exact br_t (nI_le (a := 8) (b := 8) (by omega) (by omega)) h
    · rw [te_minC (by omega)] at h
      exact br_f (nI_ge (b := 8) (by omega) (by omega)) (nm_r (nI_1 K) h)
  | succ g ih =>
    intro p hp
    refine br_f (nI_ge (b := 12) (by omega) (by omega)) ⟨vp_in_nI (by omega) (by omega), vp_in_nI (by omega) (by omega), nm_r ?_ (nm_r (nI_1 p) (ih (p + 1) (by omega)))⟩
    rw [nI_clamp (by omega)]
    exact te_kfS kp ce p
theorem te_xk1_L {K : Nat} (hK : K ≤ 8) (h : post (r, cc, pn, tp, bo, ins, wr, ot, wt, sr, sc, sp, ar, ac, ao, ab, (nI (te_k8 K)), st, ma, mk, se, ce, ad, sh, (te_keep kp ce), nu)) : ∀ g p : Nat, p = g + 11 → p < 96 → wX_keepFirstRow_3 post r cc pn tp bo ins wr ot wt sr sc sp ar ac ao ab (nI K) st ma mk se (g + 1) (nI p) ce ad sh (te_kd kp (p + 1)) nu := by
  intro g
  induction g with
  | zero =>
    intro p hp hq
    obtain rfl : p = 11 := by omega
    refine br_t (nI_lt (a := 11) (b := 12) (by omega) (by omega)) ?_
    have H := te_xk2_L hK h 12 0 rfl
    rw [te_kf0] at H
    exact Exists.intro _ H
  | succ g ih =>
    intro p hp hq
    obtain ⟨q, rfl⟩ : ∃ q, p = q + 1 := ⟨p - 1, by omega⟩
    have e12 : nI (q + 1) - 12 = nI (q + 1 - 12) := pk_sub (b := 12) (by omega)
    refine br_f (nI_nlt (b := 12) (by omega) (by omega)) ⟨?_, vp_in_nI (by omega) (by omega), nm_r ?_ (nm_r (pk_m1 q) (ih q (by omega) (by omega)))⟩
    · rw [e12]
      exact vp_in_nI (by omega) (by omega)
    · rw [e12, nI_clamp (by omega), nI_clamp (by omega)]
      exact te_kdS kp (by omega) (by omega)
theorem te_xkeep {K : Nat} (hK : K ≤ 8) (h : post (r, cc, pn, tp, bo, ins, wr, ot, wt, sr, sc, sp, ar, ac, ao, ab, (nI (te_k8 K)), st, ma, mk, se, ce, ad, sh, (te_keep kp ce), nu)) : wpX_keepFirstRow post (r, cc, pn, tp, bo, ins, wr, ot, wt, sr, sc, sp, ar, ac, ao, ab, (nI K), st, ma, mk, se, ce, ad, sh, kp, nu) := by
  have H := te_xk1_L hK h 84 95 rfl (by omega)
  rw [te_kd0] at H
  exact Exists.intro _ H
theorem te_xmb_L {s e d : Nat} (he : e ≤ 72) (hd : 0 < d) (hd2 : d < 1048576) (h : post (r, cc, pn, tp, bo, ins, wr, ot, wt, sr, sc, sp, ar, ac, ao, ab, kc, st, ma, mk, se, (te_mb ce s e d), ad, sh, kp, nu)) : ∀ g p : Nat, p + g = e → s ≤ p → wX_moveBack_3 post (nI e) (nI d) r cc pn tp bo ins wr ot wt sr sc sp ar ac ao ab kc st ma mk se (g + 1) (nI p) (te_mbI ce s e d p) ad sh kp nu := by
  intro g
  induction g with
  | zero =>
    intro p hp hs
    obtain rfl : p = e := by omega
    exact br_t (nI_le (Nat.le_refl _) (by omega)) h
  | succ g ih =>
    intro p hp hs
    refine br_f (nI_ge (by omega) (by omega)) ?_
    by_cases h2 : p + d < e
    · refine br_f ?_ ⟨?_, vp_in_nI (by omega) (by omega), nm_r ?_ (nm_r (nI_1 p) (ih (p + 1) (by omega) (by omega)))⟩
      · rw [nI_add]
        exact nI_ge h2 (by omega)
      · rw [nI_add]
        exact vp_in_nI (by omega) (by omega)
      · rw [nI_add, nI_clamp (by omega), nI_clamp (by omega)]
        exact te_mbIa ce hs hd h2
    · refine br_t ?_ ⟨vp_in_nI (by omega) (by omega), nm_r ?_ (nm_r (nI_1 p) (ih (p + 1) (by omega) (by omega)))⟩
      · rw [nI_add]
        exact nI_le (by omega) (by omega)
      · rw [nI_clamp (by omega)]
        exact te_mbIb ce hs h2
theorem te_xmoveBack {x y z : Int32} (s e d : Nat) (hx : x = nI s) (hy : y = nI e) (hz : z = nI d) (hse : s ≤ e) (he : e ≤ 72) (hd : 0 < d) (hd2 : d < 1048576) (h : post (r, cc, pn, tp, bo, ins, wr, ot, wt, sr, sc, sp, ar, ac, ao, ab, kc, st, ma, mk, se, (te_mb ce s e d), ad, sh, kp, nu)) : wpX_moveBack post (r, cc, pn, tp, bo, ins, wr, ot, wt, sr, sc, sp, ar, ac, ao, ab, kc, st, ma, mk, se, ce, ad, sh, kp, nu) x y z := by
  subst hx hy hz
  have H := te_xmb_L he hd hd2 h (e - s) s (by omega) (Nat.le_refl _)
  rw [te_mbI0] at H
  exact Exists.intro _ H
theorem te_xmo_L {s e d : Nat} (he : e ≤ 72) (hd : 0 < d) (hd2 : d < 1048576) (h : post (r, cc, pn, tp, bo, ins, wr, ot, wt, sr, sc, sp, ar, ac, ao, ab, kc, st, ma, mk, se, (te_mo ce s e d), ad, sh, kp, nu)) : ∀ g p : Nat, p = s + g → p ≤ e → wX_moveOn_5 post (nI s) (nI d) r cc pn tp bo ins wr ot wt sr sc sp ar ac ao ab kc st ma mk se (g + 1) (nI p + (-1)) (te_moI ce s e d p) ad sh kp nu := by
  intro g
  induction g with
  | zero =>
    intro p hp hq
    obtain rfl : p = s := by omega
    exact br_t (te_m1lt (by omega)) h
  | succ g ih =>
    intro p hp hq
    obtain ⟨q, rfl⟩ : ∃ q, p = q + 1 := ⟨p - 1, by omega⟩
    rw [pk_m1 q]
    refine br_f (nI_nlt (by omega) (by omega)) ?_
    by_cases h2 : s + d ≤ q
    · have eq : nI q - nI d = nI (q - d) := te_nsub (by omega)
      refine br_f ?_ ⟨?_, vp_in_nI (by omega) (by omega), nm_r ?_ (nm_e (ih q (by omega) (by omega)))⟩
      · rw [eq]
        exact nI_nlt (by omega) (by omega)
      · rw [eq]
        exact vp_in_nI (by omega) (by omega)
      · rw [eq, nI_clamp (by omega), nI_clamp (by omega)]
        exact te_moIa ce hd (by omega) h2
    · refine br_t ((te_subLt (by omega) (by omega) (by omega)).mpr (by omega)) ⟨vp_in_nI (by omega) (by omega), nm_r ?_ (nm_e (ih q (by omega) (by omega)))⟩
      rw [nI_clamp (by omega)]
      exact te_moIb ce (by omega) h2
theorem te_xmoveOn {x y z : Int32} (s e d : Nat) (hx : x = nI s) (hy : y = nI e) (hz : z = nI d) (hse : s ≤ e) (he : e ≤ 72) (hd : 0 < d) (hd2 : d < 1048576) (h : post (r, cc, pn, tp, bo, ins, wr, ot, wt, sr, sc, sp, ar, ac, ao, ab, kc, st, ma, mk, se, (te_mo ce s e d), ad, sh, kp, nu)) : wpX_moveOn post (r, cc, pn, tp, bo, ins, wr, ot, wt, sr, sc, sp, ar, ac, ao, ab, kc, st, ma, mk, se, ce, ad, sh, kp, nu) x y z := by
  subst hx hy hz
  have H := te_xmo_L he hd hd2 h (e - s) e (by omega) (Nat.le_refl _)
  rw [te_moI0] at H
  unfold wpX_moveOn
  exact nm_r (te_sub1 _) (Exists.intro _ H)
theorem te_xsu_L {T B n : Nat} (hTB : T ≤ B) (hB : B < 6) (hn : n < 1000) : ∀ (g i K : Nat) (c k : Nat → Int32), i + g = n → K ≤ 8 → post (r, cc, pn, (nI T), (nI B), ins, wr, ot, wt, sr, sc, sp, ar, ac, ao, ab, (nI (te_sn (te_q ot T) T B g K c k).1), st, ma, mk, se, ((te_sn (te_q ot T) T B g K c k).2.1), ad, sh, ((te_sn (te_q ot T) T B g K c k).2.2), nu) → wX_scrollUp_2 post (nI n) (g + 1) (nI i) r cc pn (nI T) (nI B) ins wr ot wt sr sc sp ar ac ao ab (nI K) st ma mk se c ad sh k nu := by
  intro g
  induction g with
  | zero =>
    intro i K c k hi hK h
    obtain rfl : i = n := by omega
    exact br_t (nI_le (Nat.le_refl _) (by omega)) h
  | succ g ih =>
    intro i K c k hi hK h
    refine br_f (nI_ge (by omega) (by omega)) ?_
    have Q : ∀ (K' : Nat) (k' : Nat → Int32), K' ≤ 8 → post (r, cc, pn, (nI T), (nI B), ins, wr, ot, wt, sr, sc, sp, ar, ac, ao, ab, (nI (te_sn (te_q ot T) T B g K' (te_mb c (12 * T) (12 * (B + 1)) 12) k').1), st, ma, mk, se, ((te_sn (te_q ot T) T B g K' (te_mb c (12 * T) (12 * (B + 1)) 12) k').2.1), ad, sh, ((te_sn (te_q ot T) T B g K' (te_mb c (12 * T) (12 * (B + 1)) 12) k').2.2), nu) → wX_scrollUp_25 post (wX_scrollUp_2 post (nI n) (g + 1)) (nI n) (nI i) r cc pn (nI T) (nI B) ins wr ot wt sr sc sp ar ac ao ab (nI K') st ma mk se c ad sh k' nu := by
      intro K' k' hK' h'
      unfold wX_scrollUp_25
      refine te_xmoveBack (12 * T) (12 * (B + 1)) 12 (te_m12 T) (te_b12 B) rfl (by omega) (by omega) (by omega) (by omega) ?_
      exact nm_r (nI_1 i) (ih (i + 1) K' (te_mb c (12 * T) (12 * (B + 1)) 12) k' (by omega) hK' h')
    by_cases h0 : ot = 0
    · by_cases hT : T = 0
      · rw [te_qT h0 hT] at h Q
        refine br_t h0 (br_t (by rw [hT, nI_0]) ?_)
        exact te_xkeep hK (Q (te_k8 K) (te_keep k c) (te_k8Le K) h)
      · rw [te_qN hT] at h Q
        exact br_t h0 (br_f (nI_ne0 (by omega) (by omega)) (Q K k hK h))
    · rw [te_qO h0] at h Q
      exact br_f h0 (Q K k hK h)
theorem te_xscrollUp {T B K : Nat} {x : Int32} (n : Nat) (hx : x = nI n) (hTB : T ≤ B) (hB : B < 6) (hn : n < 1000) (hK : K ≤ 8) (h : post (r, cc, pn, (nI T), (nI B), ins, wr, ot, wt, sr, sc, sp, ar, ac, ao, ab, (nI (te_sn (te_q ot T) T B n K ce kp).1), st, ma, mk, se, ((te_sn (te_q ot T) T B n K ce kp).2.1), ad, sh, ((te_sn (te_q ot T) T B n K ce kp).2.2), nu)) : wpX_scrollUp post (r, cc, pn, (nI T), (nI B), ins, wr, ot, wt, sr, sc, sp, ar, ac, ao, ab, (nI K), st, ma, mk, se, ce, ad, sh, kp, nu) x := by
  subst hx
  exact Exists.intro _ (te_xsu_L hTB hB hn n 0 K ce kp (by omega) hK h)
theorem te_xlineFeed {T B R K : Nat} (hTB : T ≤ B) (hB : B < 6) (hR : R < 6) (hK : K ≤ 8) (h : post ((nI (te_lfR R B)), cc, pn, (nI T), (nI B), ins, wr, ot, wt, sr, sc, sp, ar, ac, ao, ab, (nI (te_lfW (te_q ot T) T B R K ce kp).1), st, ma, mk, se, ((te_lfW (te_q ot T) T B R K ce kp).2.1), ad, sh, ((te_lfW (te_q ot T) T B R K ce kp).2.2), nu)) : wpX_lineFeed post ((nI R), cc, pn, (nI T), (nI B), ins, wr, ot, wt, sr, sc, sp, ar, ac, ao, ab, (nI K), st, ma, mk, se, ce, ad, sh, kp, nu) := by
  unfold wpX_lineFeed
  by_cases h1 : R = B
  · have e1 : te_lfR R B = R := if_pos h1
    have e2 : te_lfW (te_q ot T) T B R K ce kp = te_sn (te_q ot T) T B 1 K ce kp := if_pos h1
    rw [e1, e2] at h
    refine br_t (congrArg nI h1) ?_
    exact te_xscrollUp 1 rfl hTB hB (by omega) hK h
  · have e2 : te_lfW (te_q ot T) T B R K ce kp = (K, ce, kp) := if_neg h1
    rw [e2] at h
    refine br_f (te_ne h1 (by omega) (by omega)) ?_
    by_cases h5 : R < 5
    · have e1 : te_lfR R B = R + 1 := by unfold te_lfR; rw [if_neg h1, if_pos h5]
      rw [e1] at h
      exact br_f (nI_ge (b := 5) h5 (by omega)) (nm_r (nI_1 R) h)
    · have e1 : te_lfR R B = R := by unfold te_lfR; rw [if_neg h1, if_neg h5]
      rw [e1] at h
      exact br_t (nI_le (a := 5) (by omega) (by omega)) h
theorem te_xscrollDown {T B : Nat} {x : Int32} (n : Nat) (hx : x = nI n) (hTB : T ≤ B) (hB : B < 6) (h0 : 0 < n) (hn : n < 1000) (h : post (r, cc, pn, (nI T), (nI B), ins, wr, ot, wt, sr, sc, sp, ar, ac, ao, ab, kc, st, ma, mk, se, (te_mo ce (12 * T) (12 * (B + 1)) (12 * n)), ad, sh, kp, nu)) : wpX_scrollDown post (r, cc, pn, (nI T), (nI B), ins, wr, ot, wt, sr, sc, sp, ar, ac, ao, ab, kc, st, ma, mk, se, ce, ad, sh, kp, nu) x := by
  subst hx
  unfold wpX_scrollDown
  exact te_xmoveOn (12 * T) (12 * (B + 1)) (12 * n) (te_m12 T) (te_b12 B) (te_m12 n) (by omega) (by omega) (by omega) (by omega) h
theorem te_xreverse {T B R : Nat} (hTB : T ≤ B) (hB : B < 6) (hR : R < 6) (h : post ((nI (te_rlR R T)), cc, pn, (nI T), (nI B), ins, wr, ot, wt, sr, sc, sp, ar, ac, ao, ab, kc, st, ma, mk, se, (te_rlC R T B ce), ad, sh, kp, nu)) : wpX_reverseLineFeed post ((nI R), cc, pn, (nI T), (nI B), ins, wr, ot, wt, sr, sc, sp, ar, ac, ao, ab, kc, st, ma, mk, se, ce, ad, sh, kp, nu) := by
  unfold wpX_reverseLineFeed
  by_cases h1 : R = T
  · have e1 : te_rlR R T = R := if_pos h1
    have e2 : te_rlC R T B ce = te_mo ce (12 * T) (12 * (B + 1)) 12 := if_pos h1
    rw [e1, e2] at h
    refine br_t (congrArg nI h1) ?_
    exact te_xscrollDown 1 rfl hTB hB (by omega) (by omega) h
  · have e1 : te_rlR R T = R - 1 := if_neg h1
    have e2 : te_rlC R T B ce = ce := if_neg h1
    rw [e1, e2] at h
    refine br_f (te_ne h1 (by omega) (by omega)) ?_
    by_cases h0 : R = 0
    · subst h0
      exact br_t (nI_le (a := 0) (b := 0) (by omega) (by omega)) h
    · exact br_f (nI_nle (by omega) (by omega)) (nm_r (te_ns1 (by omega)) h)
end
