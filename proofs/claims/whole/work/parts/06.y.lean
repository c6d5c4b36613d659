/-! the reference's methods, each with a general post -/
section
variable {post : SY → Prop} {r cc pn tp bo ins wr ot wt sr sc sp ar ac ao ab kc st bg mq mn : Int32} {ce sh aq kp nq : Nat → Int32}
theorem te_yem_L {s e : Nat} (he : e < 72) (h : post (r, cc, pn, tp, bo, ins, wr, ot, wt, sr, sc, sp, ar, ac, ao, ab, kc, st, bg, mq, mn, (te_cl ce s (e + 1)), sh, aq, kp, nq)) : ∀ g p : Nat, p + g = e + 1 → s ≤ p → wY_empty_2 post (nI e) r cc pn tp bo ins wr ot wt sr sc sp ar ac ao ab kc st bg mq mn (g + 1) (nI p) (te_cl ce s p) sh aq kp nq := by
  intro g
  induction g with
  | zero =>
    intro p hp hs
    obtain rfl : p = e + 1 := by omega
    exact br_t (nI_lt (by omega) (by omega)) h
  | succ g ih =>
    intro p hp hs
    refine br_f (nI_nlt (by omega) (by omega)) ⟨vp_in_nI (by omega) (by omega), nm_r ?_ (nm_r (nI_1 p) (ih (p + 1) (by omega) (by omega)))⟩
    rw [nI_clamp (by omega)]
    exact te_clS ce hs
/-- from s to e, e itself too -/
theorem te_yempty {x y : Int32} (s e : Nat) (hx : x = nI s) (hy : y = nI e) (hse : s ≤ e + 1) (he : e < 72) (h : post (r, cc, pn, tp, bo, ins, wr, ot, wt, sr, sc, sp, ar, ac, ao, ab, kc, st, bg, mq, mn, (te_cl ce s (e + 1)), sh, aq, kp, nq)) : wpY_empty post (r, cc, pn, tp, bo, ins, wr, ot, wt, sr, sc, sp, ar, ac, ao, ab, kc, st, bg, mq, mn, ce, sh, aq, kp, nq) x y := by
  subst hx hy
  have H := te_yem_L (s := s) he h (e + 1 - s) s (by omega) (Nat.le_refl _)
  rw [te_cl0 ce (Nat.le_refl s)] at H
  exact Exists.intro _ H
theorem te_yrenew (h : post (0, 0, 0, 0, 5, 0, 1, 0, 0, 0, 0, 0, ar, ac, ao, ab, 0, st, bg, mq, mn, (te_cl ce 0 72), sh, aq, kp, nq)) : wpY_renew post (r, cc, pn, tp, bo, ins, wr, ot, wt, sr, sc, sp, ar, ac, ao, ab, kc, st, bg, mq, mn, ce, sh, aq, kp, nq) := by
  unfold wpY_renew
  exact te_yempty 0 71 rfl rfl (by omega) (by omega) h
theorem te_yin_L (h : post (r, cc, pn, tp, bo, ins, wr, ot, wt, sr, sc, sp, ar, ac, ao, ab, kc, st, bg, mq, mn, ce, (te_cl sh 0 72), aq, kp, nq)) : ∀ g p : Nat, p + g = 72 → wY_init_49 post r cc pn tp bo ins wr ot wt sr sc sp ar ac ao ab kc st bg mq mn (g + 1) (nI p) ce (te_cl sh 0 p) aq kp nq := by
  intro g
  induction g with
  | zero =>
    intro p hp
    obtain rfl : p = 72 := by omega
    exact br_t (nI_le (a := 72) (b := 72) (by omega) (by omega)) h
  | succ g ih =>
    intro p hp
    refine br_f (nI_ge (b := 72) (by omega) (by omega)) ⟨vp_in_nI (by omega) (by omega), nm_r ?_ (nm_r (nI_1 p) (ih (p + 1) (by omega)))⟩
    rw [nI_clamp (by omega)]
    exact te_clS sh (Nat.zero_le p)
theorem te_yinit (h : post (0, 0, 0, 0, 5, 0, 1, 0, 0, 0, 0, 0, 0, 0, 0, 0, 0, 0, 0, 0, 0, (te_cl (fun _ => 0) 0 72), (te_cl (fun _ => 0) 0 72), (fun _ => 0), (fun _ => 0), (fun _ => 0))) : wpY_init post := by
  unfold wpY_init
  refine te_yrenew ?_
  have H := te_yin_L (sh := fun _ => 0) h 72 0 rfl
  rw [te_cl0 (fun _ => 0) (Nat.le_refl 0)] at H
  exact Exists.intro _ H
theorem te_ycr_L {f t : Nat} (hf : f < 6) (ht : t < 6) (hft : f < t ∨ t < f) (h : post (r, cc, pn, tp, bo, ins, wr, ot, wt, sr, sc, sp, ar, ac, ao, ab, kc, st, bg, mq, mn, (te_cr ce f t 12), sh, aq, kp, nq)) : ∀ g p : Nat, p + g = 12 → wY_copyRow_2 post (nI f) (nI t) r cc pn tp bo ins wr ot wt sr sc sp ar ac ao ab kc st bg mq mn (g + 1) (nI p) (te_cr ce f t p) sh aq kp nq := by
  intro g
  induction g with
  | zero =>
    intro p hp
    obtain rfl : p = 12 := by omega
    exact br_t (nI_le (a := 12) (b := 12) (by omega) (by omega)) h
  | succ g ih =>
    intro p hp
    refine br_f (nI_ge (b := 12) (by omega) (by omega)) ⟨?_, ?_, nm_r ?_ (nm_r (nI_1 p) (ih (p + 1) (by omega)))⟩
    · rw [te_iy]
      exact vp_in_nI (by omega) (by omega)
    · rw [te_iy]
      exact vp_in_nI (by omega) (by omega)
    · rw [te_iy, te_iy, nI_clamp (by omega), nI_clamp (by omega)]
      exact te_crS ce (by omega) hft
theorem te_ycopyRow {x y : Int32} (f t : Nat) (hx : x = nI f) (hy : y = nI t) (hf : f < 6) (ht : t < 6) (hft : f < t ∨ t < f) (h : post (r, cc, pn, tp, bo, ins, wr, ot, wt, sr, sc, sp, ar, ac, ao, ab, kc, st, bg, mq, mn, (te_cr ce f t 12), sh, aq, kp, nq)) : wpY_copyRow post (r, cc, pn, tp, bo, ins, wr, ot, wt, sr, sc, sp, ar, ac, ao, ab, kc, st, bg, mq, mn, ce, sh, aq, kp, nq) x y := by
  subst hx hy
  have H := te_ycr_L hf ht hft h 12 0 rfl
  rw [te_cr0] at H
  exact Exists.intro _ H
theorem te_yk2_L {K : Nat} (hK : K ≤ 8) (hc : te_rg ce) (h : post (r, cc, pn, tp, bo, ins, wr, ot, wt, sr, sc, sp, ar, ac, ao, ab, (nI (te_k8 K)), st, bg, mq, mn, ce, sh, aq, (te_kf kp ce 12), nq)) : ∀ g p : Nat, p + g = 12 → wY_keepRow_32 post 0 r cc pn tp bo ins wr ot wt sr sc sp ar ac ao ab (nI K) st bg mq mn (g + 1) (nI p) ce sh aq (te_kf kp ce p) nq := by
  intro g
  induction g with
  | zero =>
    intro p hp
    obtain rfl : p = 12 := by omega
    refine br_t (nI_le (a := 12) (b := 12) (by omega) (by omega)) ?_
    unfold te_k8 at h
    by_cases h8 : 8 ≤ K
    · obtain rfl : K = 8 := by omega
      exact br_t (nI_le (a := 8) (b := 8) (by omega) (by omega)) h
    · rw [te_minC (by omega)] at h
      exact br_f (nI_ge (b := 8) (by omega) (by omega)) (nm_r (nI_1 K) h)
  | succ g ih =>
    intro p hp
    have e0 : (12 * 0 + nI p : Int32) = nI p := (te_iy 0 p).trans (congrArg nI (by omega))
    refine br_f (nI_ge (b := 12) (by omega) (by omega)) ⟨?_, by decide, vp_in_nI (by omega) (by omega), nm_r ?_ (nm_r (nI_1 p) (ih (p + 1) (by omega)))⟩
    · rw [e0]
      exact vp_in_nI (by omega) (by omega)
    · rw [e0, nI_clamp (by omega), te_keepRow hc]
      exact te_kfS kp ce p
theorem te_yk1_L {K : Nat} (hK : K ≤ 8) (hc : te_rg ce) (h : post (r, cc, pn, tp, bo, ins, wr, ot, wt, sr, sc, sp, ar, ac, ao, ab, (nI (te_k8 K)), st, bg, mq, mn, ce, sh, aq, (te_keep kp ce), nq)) : ∀ g p : Nat, p = g + 11 → p < 96 → wY_keepRow_3 post 0 r cc pn tp bo ins wr ot wt sr sc sp ar ac ao ab (nI K) st bg mq mn (g + 1) (nI p) ce sh aq (te_kd kp (p + 1)) nq := by
  intro g
  induction g with
  | zero =>
    intro p hp hq
    obtain rfl : p = 11 := by omega
    refine br_t (nI_lt (a := 11) (b := 12) (by omega) (by omega)) ?_
    have H := te_yk2_L hK hc h 12 0 rfl
    rw [te_kf0] at H
    exact Exists.intro _ H
  | succ g ih =>
    intro p hp hq
    obtain ⟨q, rfl⟩ : ∃ q, p = q + 1 := ⟨p - 1, by omega⟩
    have e12 : nI (q + 1) - 12 = nI (q + 1 - 12) := pk_sub (b := 12) (by omega)
    refine br_f (nI_nlt (b := 12) (by omega) (by omega)) ⟨?_, vp_in_nI (by omega) (by omega), nm_r ?_ (nm_r (pk_m1 q) (ih q (by omega) (by omega)))⟩
    · rw [e12]
      exact vp_in_nI (by omega) (by omega)
    · rw [e12, nI_clamp (by omega), nI_clamp (by omega)]
      exact te_kdS kp (by omega) (by omega)
theorem te_ykeep {K : Nat} (hK : K ≤ 8) (hc : te_rg ce) (h : post (r, cc, pn, tp, bo, ins, wr, ot, wt, sr, sc, sp, ar, ac, ao, ab, (nI (te_k8 K)), st, bg, mq, mn, ce, sh, aq, (te_keep kp ce), nq)) : wpY_keepRow post (r, cc, pn, tp, bo, ins, wr, ot, wt, sr, sc, sp, ar, ac, ao, ab, (nI K), st, bg, mq, mn, ce, sh, aq, kp, nq) 0 := by
  have H := te_yk1_L hK hc h 84 95 rfl (by omega)
  rw [te_kd0] at H
  exact Exists.intro _ H
theorem te_yru_L {f t : Nat} (ht : t < 6) (h : post (r, cc, pn, tp, bo, ins, wr, ot, wt, sr, sc, sp, ar, ac, ao, ab, kc, st, bg, mq, mn, (te_mb ce (12 * f) (12 * (t + 1)) 12), sh, aq, kp, nq)) : ∀ g p : Nat, p + g = t → f ≤ p → wY_rowsUp_2 post (nI t) (g + 1) (nI p) r cc pn tp bo ins wr ot wt sr sc sp ar ac ao ab kc st bg mq mn (te_up ce f p) sh aq kp nq := by
  intro g
  induction g with
  | zero =>
    intro p hp hf
    obtain rfl : p = t := by omega
    refine br_t (nI_le (Nat.le_refl _) (by omega)) ?_
    refine te_yempty (12 * p) (12 * p + 11) (te_12m p) (te_iy11 p) (by omega) (by omega) ?_
    rw [← te_upE ce hf] at h
    exact h
  | succ g ih =>
    intro p hp hf
    refine br_f (nI_ge (by omega) (by omega)) ?_
    refine te_ycopyRow (p + 1) p (nI_1 p) rfl (by omega) (by omega) (by omega) ?_
    have H := ih (p + 1) (by omega) (by omega)
    rw [← te_upS ce hf] at H
    exact nm_r (nI_1 p) H
theorem te_yrowsUp {x y : Int32} (f t : Nat) (hx : x = nI f) (hy : y = nI t) (hft : f ≤ t) (ht : t < 6) (h : post (r, cc, pn, tp, bo, ins, wr, ot, wt, sr, sc, sp, ar, ac, ao, ab, kc, st, bg, mq, mn, (te_mb ce (12 * f) (12 * (t + 1)) 12), sh, aq, kp, nq)) : wpY_rowsUp post (r, cc, pn, tp, bo, ins, wr, ot, wt, sr, sc, sp, ar, ac, ao, ab, kc, st, bg, mq, mn, ce, sh, aq, kp, nq) x y := by
  subst hx hy
  have H := te_yru_L ht h (t - f) f (by omega) (Nat.le_refl _)
  rw [te_up0] at H
  exact Exists.intro _ H
theorem te_yrd_L {f t : Nat} (ht : t < 6) (h : post (r, cc, pn, tp, bo, ins, wr, ot, wt, sr, sc, sp, ar, ac, ao, ab, kc, st, bg, mq, mn, (te_mo ce (12 * f) (12 * (t + 1)) 12), sh, aq, kp, nq)) : ∀ g p : Nat, p = f + g → p ≤ t → wY_rowsDown_2 post (nI f) (g + 1) (nI p) r cc pn tp bo ins wr ot wt sr sc sp ar ac ao ab kc st bg mq mn (te_dn ce t p) sh aq kp nq := by
  intro g
  induction g with
  | zero =>
    intro p hp hq
    obtain rfl : p = f := by omega
    refine br_t (nI_le (Nat.le_refl _) (by omega)) ?_
    refine te_yempty (12 * p) (12 * p + 11) (te_12m p) (te_iy11 p) (by omega) (by omega) ?_
    rw [← te_dnE ce hq] at h
    exact h
  | succ g ih =>
    intro p hp hq
    obtain ⟨q, rfl⟩ : ∃ q, p = q + 1 := ⟨p - 1, by omega⟩
    refine br_f (nI_ge (by omega) (by omega)) ?_
    refine te_ycopyRow q (q + 1) (nI_pred q) rfl (by omega) (by omega) (by omega) ?_
    have H := ih q (by omega) (by omega)
    rw [← te_dnS ce (by omega)] at H
    exact nm_r (pk_m1 q) H
theorem te_yrowsDown {x y : Int32} (f t : Nat) (hx : x = nI f) (hy : y = nI t) (hft : f ≤ t) (ht : t < 6) (h : post (r, cc, pn, tp, bo, ins, wr, ot, wt, sr, sc, sp, ar, ac, ao, ab, kc, st, bg, mq, mn, (te_mo ce (12 * f) (12 * (t + 1)) 12), sh, aq, kp, nq)) : wpY_rowsDown post (r, cc, pn, tp, bo, ins, wr, ot, wt, sr, sc, sp, ar, ac, ao, ab, kc, st, bg, mq, mn, ce, sh, aq, kp, nq) x y := by
  subst hx hy
  have H := te_yrd_L ht h (t - f) t (by omega) (Nat.le_refl _)
  rw [te_dn0] at H
  exact Exists.intro _ H
theorem te_yscrollUp {T B K : Nat} (hTB : T ≤ B) (hB : B < 6) (hK : K ≤ 8) (hc : te_rg ce) (h : post (r, cc, pn, (nI T), (nI B), ins, wr, ot, wt, sr, sc, sp, ar, ac, ao, ab, (nI (te_sn (te_q ot T) T B 1 K ce kp).1), st, bg, mq, mn, ((te_sn (te_q ot T) T B 1 K ce kp).2.1), sh, aq, ((te_sn (te_q ot T) T B 1 K ce kp).2.2), nq)) : wpY_scrollUp post (r, cc, pn, (nI T), (nI B), ins, wr, ot, wt, sr, sc, sp, ar, ac, ao, ab, (nI K), st, bg, mq, mn, ce, sh, aq, kp, nq) := by
  unfold wpY_scrollUp
  have Q : ∀ (K' : Nat) (k' : Nat → Int32), post (r, cc, pn, (nI T), (nI B), ins, wr, ot, wt, sr, sc, sp, ar, ac, ao, ab, (nI K'), st, bg, mq, mn, (te_mb ce (12 * T) (12 * (B + 1)) 12), sh, aq, k', nq) → wY_scrollUp_19 post r cc pn (nI T) (nI B) ins wr ot wt sr sc sp ar ac ao ab (nI K') st bg mq mn ce sh aq k' nq := by
    intro K' k' h'
    unfold wY_scrollUp_19
    exact te_yrowsUp T B rfl rfl hTB hB h'
  by_cases h0 : ot = 0
  · by_cases hT : T = 0
    · rw [te_qT h0 hT] at h
      refine br_t h0 (br_t (by rw [hT, nI_0]) ?_)
      exact te_ykeep hK hc (Q (te_k8 K) (te_keep kp ce) h)
    · rw [te_qN hT] at h
      exact br_t h0 (br_f (nI_ne0 (by omega) (by omega)) (Q K kp h))
  · rw [te_qO h0] at h
    exact br_f h0 (Q K kp h)
theorem te_ylineFeed {T B R K : Nat} (hTB : T ≤ B) (hB : B < 6) (hR : R < 6) (hK : K ≤ 8) (hc : te_rg ce) (h : post ((nI (te_lfR R B)), cc, pn, (nI T), (nI B), ins, wr, ot, wt, sr, sc, sp, ar, ac, ao, ab, (nI (te_lfW (te_q ot T) T B R K ce kp).1), st, bg, mq, mn, ((te_lfW (te_q ot T) T B R K ce kp).2.1), sh, aq, ((te_lfW (te_q ot T) T B R K ce kp).2.2), nq)) : wpY_lineFeed post ((nI R), cc, pn, (nI T), (nI B), ins, wr, ot, wt, sr, sc, sp, ar, ac, ao, ab, (nI K), st, bg, mq, mn, ce, sh, aq, kp, nq) := by
  unfold wpY_lineFeed
  by_cases h1 : R = B
  · have e1 : te_lfR R B = R := if_pos h1
    have e2 : te_lfW (te_q ot T) T B R K ce kp = te_sn (te_q ot T) T B 1 K ce kp := if_pos h1
    rw [e1, e2] at h
    refine br_t (congrArg nI h1) ?_
    exact te_yscrollUp hTB hB hK hc h
  · have e2 : te_lfW (te_q ot T) T B R K ce kp = (K, ce, kp) := if_neg h1
    rw [e2] at h
    refine br_f (te_ne h1 (by omega) (by omega)) ?_
    by_cases h5 : R < 5
    · have e1 : te_lfR R B = R + 1 := by unfold te_lfR; rw [if_neg h1, if_pos h5]
      rw [e1] at h
      exact br_f (nI_ge (b := 5) h5 (by omega)) (nm_r (nI_1 R) h)
    · have e1 : te_lfR R B = R := by unfold te_lfR; rw [if_neg h1, if_neg h5]
      rw [e1] at h
      exact br_t (nI_le (a := 5) (by omega) (by omega)) h
end
