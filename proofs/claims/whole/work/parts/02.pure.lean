/-! pure pictures of the moves on the cells -/
def te_mb (c : Nat → Int32) (s e d : Nat) : Nat → Int32 := fun k => if s ≤ k ∧ k < e then (if k + d < e then c (k + d) else 32) else c k
def te_mo (c : Nat → Int32) (s e d : Nat) : Nat → Int32 := fun k => if s ≤ k ∧ k < e then (if s + d ≤ k then c (k - d) else 32) else c k
def te_cl (c : Nat → Int32) (s e : Nat) : Nat → Int32 := fun k => if s ≤ k ∧ k < e then 32 else c k
theorem te_mbmb (c : Nat → Int32) (s e a b : Nat) : te_mb (te_mb c s e a) s e b = te_mb c s e (a + b) := by
  funext k
  simp only [te_mb]
  repeat' split
  all_goals first | rfl | (exfalso; omega) | exact congrArg c (by omega)
theorem te_momo (c : Nat → Int32) (s e a b : Nat) : te_mo (te_mo c s e a) s e b = te_mo c s e (a + b) := by
  funext k
  simp only [te_mo]
  repeat' split
  all_goals first | rfl | (exfalso; omega) | exact congrArg c (by omega)
theorem te_mb0 (c : Nat → Int32) (s e : Nat) : te_mb c s e 0 = c := by
  funext k
  simp only [te_mb, Nat.add_zero]
  repeat' split
  all_goals first | rfl | (exfalso; omega)
theorem te_mo0 (c : Nat → Int32) (s e : Nat) : te_mo c s e 0 = c := by
  funext k
  simp only [te_mo, Nat.add_zero, Nat.sub_zero]
  repeat' split
  all_goals first | rfl | (exfalso; omega)
/-- beyond the length of the piece every move is the same -/
theorem te_mbX (c : Nat → Int32) {s e a b : Nat} (ha : e ≤ s + a) (hb : e ≤ s + b) : te_mb c s e a = te_mb c s e b := by
  funext k
  simp only [te_mb]
  repeat' split
  all_goals first | rfl | (exfalso; omega)
theorem te_moX (c : Nat → Int32) {s e a b : Nat} (ha : e ≤ s + a) (hb : e ≤ s + b) : te_mo c s e a = te_mo c s e b := by
  funext k
  simp only [te_mo]
  repeat' split
  all_goals first | rfl | (exfalso; omega)
theorem te_mbM (c : Nat → Int32) {s e n : Nat} (h : e ≤ s + 12) : te_mb c s e (min n 12) = te_mb c s e n := by
  by_cases h1 : n ≤ 12
  · rw [Nat.min_eq_left h1]
  · exact te_mbX c (by omega) (by omega)
theorem te_moM (c : Nat → Int32) {s e n : Nat} (h : e ≤ s + 12) : te_mo c s e (min n 12) = te_mo c s e n := by
  by_cases h1 : n ≤ 12
  · rw [Nat.min_eq_left h1]
  · exact te_moX c (by omega) (by omega)

/-! the cells' range -/
def te_rg (c : Nat → Int32) : Prop := ∀ k, ∃ m : Nat, m < 1024 ∧ c k = nI m
theorem te_rg32 : ∃ m : Nat, m < 1024 ∧ (32 : Int32) = nI m := ⟨32, by omega, rfl⟩
theorem te_rgMb {c : Nat → Int32} (h : te_rg c) (s e d : Nat) : te_rg (te_mb c s e d) := by
  intro k
  simp only [te_mb]
  repeat' split
  all_goals first | exact h _ | exact te_rg32
theorem te_rgMo {c : Nat → Int32} (h : te_rg c) (s e d : Nat) : te_rg (te_mo c s e d) := by
  intro k
  simp only [te_mo]
  repeat' split
  all_goals first | exact h _ | exact te_rg32
theorem te_rgCl {c : Nat → Int32} (h : te_rg c) (s e : Nat) : te_rg (te_cl c s e) := by
  intro k
  simp only [te_cl]
  repeat' split
  all_goals first | exact h _ | exact te_rg32
theorem te_rgU {c : Nat → Int32} (h : te_rg c) {k m : Nat} (hm : m < 1024) : te_rg (upd c k (nI m)) := by
  intro j
  simp only [upd]
  split
  · exact ⟨m, hm, rfl⟩
  · exact h j
theorem te_rg0 : te_rg (fun _ => 0) := fun _ => ⟨0, by omega, rfl⟩

/-! the reference's row by row -/
/-- one row copied -/
def te_cr (c : Nat → Int32) (f t j : Nat) : Nat → Int32 := fun k => if 12 * t ≤ k ∧ k < 12 * t + j then c (k - 12 * t + 12 * f) else c k
theorem te_crS (c : Nat → Int32) {f t j : Nat} (hj : j < 12) (hft : f < t ∨ t < f) : upd (te_cr c f t j) (12 * t + j) (te_cr c f t j (12 * f + j)) = te_cr c f t (j + 1) := by
  funext k
  simp only [te_cr, upd]
  repeat' split
  all_goals first | rfl | (exfalso; omega) | exact congrArg c (by omega)
theorem te_cr0 (c : Nat → Int32) (f t : Nat) : te_cr c f t 0 = c := by
  funext k
  simp only [te_cr]
  split
  · exfalso; omega
  · rfl
def te_up (c : Nat → Int32) (f r : Nat) : Nat → Int32 := fun k => if 12 * f ≤ k ∧ k < 12 * r then c (k + 12) else c k
theorem te_upS (c : Nat → Int32) {f r : Nat} (h : f ≤ r) : te_cr (te_up c f r) (r + 1) r 12 = te_up c f (r + 1) := by
  funext k
  simp only [te_cr, te_up]
  repeat' split
  all_goals first | rfl | (exfalso; omega) | exact congrArg c (by omega)
theorem te_up0 (c : Nat → Int32) (f : Nat) : te_up c f f = c := by
  funext k
  simp only [te_up]
  split
  · exfalso; omega
  · rfl
theorem te_upE (c : Nat → Int32) {f t : Nat} (h : f ≤ t) : te_cl (te_up c f t) (12 * t) (12 * t + 12) = te_mb c (12 * f) (12 * (t + 1)) 12 := by
  funext k
  simp only [te_cl, te_up, te_mb]
  repeat' split
  all_goals first | rfl | (exfalso; omega) | exact congrArg c (by omega)
def te_dn (c : Nat → Int32) (t r : Nat) : Nat → Int32 := fun k => if 12 * (r + 1) ≤ k ∧ k < 12 * (t + 1) then c (k - 12) else c k
theorem te_dnS (c : Nat → Int32) {t r : Nat} (h : r + 1 ≤ t) : te_cr (te_dn c t (r + 1)) r (r + 1) 12 = te_dn c t r := by
  funext k
  simp only [te_cr, te_dn]
  repeat' split
  all_goals first | rfl | (exfalso; omega) | exact congrArg c (by omega)
theorem te_dn0 (c : Nat → Int32) (t : Nat) : te_dn c t t = c := by
  funext k
  simp only [te_dn]
  split
  · exfalso; omega
  · rfl
theorem te_dnE (c : Nat → Int32) {f t : Nat} (h : f ≤ t) : te_cl (te_dn c t f) (12 * f) (12 * f + 12) = te_mo c (12 * f) (12 * (t + 1)) 12 := by
  funext k
  simp only [te_cl, te_dn, te_mo]
  repeat' split
  all_goals first | rfl | (exfalso; omega) | exact congrArg c (by omega)

/-! the reference's cell by cell -/
/-- cells behind p, up to e, one to the right -/
def te_ri (c : Nat → Int32) (p e : Nat) : Nat → Int32 := fun k => if p < k ∧ k < e then c (k - 1) else c k
theorem te_riS (c : Nat → Int32) {p e : Nat} (h : p + 1 < e) : upd (te_ri c (p + 1) e) (p + 1) (te_ri c (p + 1) e p) = te_ri c p e := by
  funext k
  simp only [te_ri, upd]
  repeat' split
  all_goals first | rfl | (exfalso; omega) | exact congrArg c (by omega)
theorem te_ri0 (c : Nat → Int32) {p e : Nat} (h : e ≤ p + 1) : te_ri c p e = c := by
  funext k
  simp only [te_ri]
  split
  · exfalso; omega
  · rfl
theorem te_riE (c : Nat → Int32) {p e : Nat} (h : p < e) : upd (te_ri c p e) p 32 = te_mo c p e 1 := by
  funext k
  simp only [te_ri, upd, te_mo]
  repeat' split
  all_goals first | rfl | (exfalso; omega) | exact congrArg c (by omega)
/-- cells from s to p, one to the left -/
def te_le (c : Nat → Int32) (s p : Nat) : Nat → Int32 := fun k => if s ≤ k ∧ k < p then c (k + 1) else c k
theorem te_leS (c : Nat → Int32) {s p : Nat} (h : s ≤ p) : upd (te_le c s p) p (te_le c s p (p + 1)) = te_le c s (p + 1) := by
  funext k
  simp only [te_le, upd]
  repeat' split
  all_goals first | rfl | (exfalso; omega) | exact congrArg c (by omega)
theorem te_le0 (c : Nat → Int32) (s : Nat) : te_le c s s = c := by
  funext k
  simp only [te_le]
  split
  · exfalso; omega
  · rfl
theorem te_leE (c : Nat → Int32) {s p : Nat} (h : s ≤ p) : upd (te_le c s p) p 32 = te_mb c s (p + 1) 1 := by
  funext k
  simp only [te_le, upd, te_mb]
  repeat' split
  all_goals first | rfl | (exfalso; omega) | exact congrArg c (by omega)

/-! the component's own loops -/
def te_mbI (c : Nat → Int32) (s e d p : Nat) : Nat → Int32 := fun k => if s ≤ k ∧ k < p then (if k + d < e then c (k + d) else 32) else c k
theorem te_mbIa (c : Nat → Int32) {s e d p : Nat} (h : s ≤ p) (hd : 0 < d) (h2 : p + d < e) : upd (te_mbI c s e d p) p (te_mbI c s e d p (p + d)) = te_mbI c s e d (p + 1) := by
  funext k
  simp only [te_mbI, upd]
  repeat' split
  all_goals first | rfl | (exfalso; omega) | exact congrArg c (by omega)
theorem te_mbIb (c : Nat → Int32) {s e d p : Nat} (h : s ≤ p) (h2 : ¬ p + d < e) : upd (te_mbI c s e d p) p 32 = te_mbI c s e d (p + 1) := by
  funext k
  simp only [te_mbI, upd]
  repeat' split
  all_goals first | rfl | (exfalso; omega) | exact congrArg c (by omega)
theorem te_mbI0 (c : Nat → Int32) (s e d : Nat) : te_mbI c s e d s = c := by
  funext k
  simp only [te_mbI]
  split
  · exfalso; omega
  · rfl
/-- the loop stands at p - 1 -/
def te_moI (c : Nat → Int32) (s e d p : Nat) : Nat → Int32 := fun k => if p ≤ k ∧ k < e then (if s + d ≤ k then c (k - d) else 32) else c k
theorem te_moIa (c : Nat → Int32) {s e d p : Nat} (hd : 0 < d) (hp : p + 1 ≤ e) (h2 : s + d ≤ p) : upd (te_moI c s e d (p + 1)) p (te_moI c s e d (p + 1) (p - d)) = te_moI c s e d p := by
  funext k
  simp only [te_moI, upd]
  repeat' split
  all_goals first | rfl | (exfalso; omega) | exact congrArg c (by omega)
theorem te_moIb (c : Nat → Int32) {s e d p : Nat} (hp : p + 1 ≤ e) (h2 : ¬ s + d ≤ p) : upd (te_moI c s e d (p + 1)) p 32 = te_moI c s e d p := by
  funext k
  simp only [te_moI, upd]
  repeat' split
  all_goals first | rfl | (exfalso; omega) | exact congrArg c (by omega)
theorem te_moI0 (c : Nat → Int32) (s e d : Nat) : te_moI c s e d e = c := by
  funext k
  simp only [te_moI]
  split
  · exfalso; omega
  · rfl
theorem te_clS (c : Nat → Int32) {s p : Nat} (h : s ≤ p) : upd (te_cl c s p) p 32 = te_cl c s (p + 1) := by
  funext k
  simp only [te_cl, upd]
  repeat' split
  all_goals first | rfl | (exfalso; omega)
theorem te_cl0 (c : Nat → Int32) {s p : Nat} (h : p ≤ s) : te_cl c s p = c := by
  funext k
  simp only [te_cl]
  split
  · exfalso; omega
  · rfl

/-! what is kept off the screen -/
/-- rows of the kept ones moved on by one, down to p -/
def te_kd (kp : Nat → Int32) (p : Nat) : Nat → Int32 := fun k => if p ≤ k ∧ k < 96 then kp (k - 12) else kp k
theorem te_kdS (kp : Nat → Int32) {p : Nat} (h : 12 ≤ p) (h2 : p < 96) : upd (te_kd kp (p + 1)) p (te_kd kp (p + 1) (p - 12)) = te_kd kp p := by
  funext k
  simp only [te_kd, upd]
  repeat' split
  all_goals first | rfl | (exfalso; omega) | exact congrArg kp (by omega)
theorem te_kd0 (kp : Nat → Int32) : te_kd kp 96 = kp := by
  funext k
  simp only [te_kd]
  split
  · exfalso; omega
  · rfl
/-- the first j signs of row 0 laid in front -/
def te_kf (kp c : Nat → Int32) (j : Nat) : Nat → Int32 := fun k => if k < j then c k &&& 127 else kp k
theorem te_kfS (kp c : Nat → Int32) (j : Nat) : upd (te_kf kp c j) j (c j &&& 127) = te_kf kp c (j + 1) := by
  funext k
  simp only [te_kf, upd]
  by_cases h : k = j
  · subst h
    rw [if_pos rfl, if_pos (by omega)]
  · rw [if_neg h]
    by_cases h2 : k < j
    · rw [if_pos h2, if_pos (by omega)]
    · rw [if_neg h2, if_neg (by omega)]
theorem te_kf0 (kp c : Nat → Int32) : te_kf kp c 0 = kp := by
  funext k
  simp only [te_kf]
  split
  · exfalso; omega
  · rfl
def te_keep (kp c : Nat → Int32) : Nat → Int32 := te_kf (te_kd kp 12) c 12

/-! the count of the cells that are shown otherwise -/
def te_ct (c s : Nat → Int32) : Nat → Nat
  | 0 => 0
  | n + 1 => te_ct c s n + (if c n = s n then 0 else 1)
theorem te_ctLe (c s : Nat → Int32) : ∀ n, te_ct c s n ≤ n := by
  intro n
  induction n with
  | zero => exact Nat.le_refl 0
  | succ n ih =>
    simp only [te_ct]
    split <;> omega
/-- the first j cells of c over s -/
def te_cp (c s : Nat → Int32) (j : Nat) : Nat → Int32 := fun k => if k < j then c k else s k
theorem te_cpS (c s : Nat → Int32) (j : Nat) : upd (te_cp c s j) j (c j) = te_cp c s (j + 1) := by
  funext k
  simp only [te_cp, upd]
  by_cases h : k = j
  · subst h
    rw [if_pos rfl, if_pos (by omega)]
  · rw [if_neg h]
    by_cases h2 : k < j
    · rw [if_pos h2, if_pos (by omega)]
    · rw [if_neg h2, if_neg (by omega)]
theorem te_cpN (c s : Nat → Int32) (j : Nat) (h : c j = s j) : te_cp c s j = te_cp c s (j + 1) := by
  funext k
  simp only [te_cp]
  by_cases h2 : k < j
  · rw [if_pos h2, if_pos (by omega)]
  · rw [if_neg h2]
    by_cases h3 : k = j
    · subst h3
      rw [if_pos (by omega), h]
    · rw [if_neg (by omega)]
theorem te_cp0 (c s : Nat → Int32) : te_cp c s 0 = s := by
  funext k
  simp only [te_cp]
  split
  · exfalso; omega
  · rfl
theorem te_cpJ (c s : Nat → Int32) (j : Nat) : te_cp c s j j = s j := by
  simp only [te_cp]
  rw [if_neg (by omega)]

