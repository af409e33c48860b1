section TR8
variable {G : zG} {d : Nat} {M : zM} {Q : zV → zM → Prop}
/-! the machine's quotient and rest, of small numbers -/
theorem zdiv_e {a b : Int} (ha : -500 ≤ a ∧ a ≤ 500) (hb : -500 ≤ b ∧ b ≤ 500) : zdiv a b = a.tdiv b := by
  have h1 : (Int32.ofInt a).toInt = a := z_ti ⟨by omega, by omega⟩
  have h2 : (Int32.ofInt b).toInt = b := z_ti ⟨by omega, by omega⟩
  have hm : Int32.ofInt a ≠ Int32.minValue := fun h => by
    have e := congrArg Int32.toInt h
    have e2 : Int32.minValue.toInt = -2147483648 := by decide
    rw [h1, e2] at e
    omega
  unfold zdiv
  rw [Int32.toInt_div_of_ne_left _ _ hm, h1, h2]
theorem tr_td {a b : Int} (ha : -500 ≤ a ∧ a ≤ 500) : -500 ≤ a.tdiv b ∧ a.tdiv b ≤ 500 := by
  have h := Int.natAbs_tdiv a b
  have h2 : a.natAbs.div b.natAbs ≤ a.natAbs := Nat.div_le_self _ _
  omega
theorem tr_tm {a b : Int} : a - a.tdiv b * b = a.tmod b := by rw [Int.tmod_def, Int.mul_comm]
theorem zrem_e {a b : Int} (ha : -500 ≤ a ∧ a ≤ 500) (hb : -500 ≤ b ∧ b ≤ 500) : zrem a b = a.tmod b := by
  have t := tr_td (b := b) ha
  have e : Int32.ofInt a / Int32.ofInt b = Int32.ofInt (a.tdiv b) := Int32.toInt_inj.mp ((zdiv_e ha hb).trans (z_ti ⟨by omega, by omega⟩).symm)
  have h := Int.natAbs_tmod a b
  have h2 : a.natAbs % b.natAbs ≤ a.natAbs := Nat.mod_le _ _
  unfold zrem
  rw [e, ← Int32.ofInt_mul, ← Int32.ofInt_sub, tr_tm]
  exact z_ti ⟨by omega, by omega⟩
theorem tr_q1 {x v : Int} (hx : -500 ≤ x ∧ x ≤ 500) (hv : -500 ≤ v ∧ v ≤ 500) (h : zrem v x = 0) : x * zdiv v x = v ∧ -500 ≤ zdiv v x ∧ zdiv v x ≤ 500 := by
  rw [zrem_e hv hx] at h
  rw [zdiv_e hv hx]
  have e := tr_tm (a := v) (b := x)
  have t := tr_td (b := x) hv
  rw [Int.mul_comm] at e
  exact ⟨by omega, t⟩
theorem tr_q2 {x v y : Int} (hx : -500 ≤ x ∧ x ≤ 500) (hv : -500 ≤ v ∧ v ≤ 500) (h0 : x ≠ 0) (h : x * y = v) : zrem v x = 0 ∧ zdiv v x = y := by
  have e : v.tdiv x = y := by rw [← h]; exact Int.mul_tdiv_cancel_left y h0
  rw [zrem_e hv hx, zdiv_e hv hx]
  refine ⟨?_, e⟩
  rw [← tr_tm, e, Int.mul_comm]
  omega

/-! the first parting of a tree -/
def tr_op (s x y : Int) : Int := if s = 0 then x + y else if s = 1 then x - y else x * y
def tr_y (g : Int → Int) (s x v : Int) : Nat → Int → Int
  | 0, _ => -1000
  | r + 1, y => if tr_op s x y = v then (if g y = 0 then tr_y g s x v r (y + 1) else y) else tr_y g s x v r (y + 1)
def tr_x (f g : Int → Int) (s v : Int) : Nat → Int → Int × Int
  | 0, x => (x, -1000)
  | r + 1, x => if f x = 0 then tr_x f g s v r (x + 1) else if tr_y g s x v 1001 (-500) = -1000 then tr_x f g s v r (x + 1) else (x, tr_y g s x v 1001 (-500))
def tr_sg (f g : Int → Int) (v : Int) : Nat → Int → Int × Int × Int
  | 0, s => (s, 0, -1000)
  | r + 1, s => if (tr_x f g s v 1001 (-500)).2 = -1000 then tr_sg f g v r (s + 1) else (s, tr_x f g s v 1001 (-500))
def tr_pt (K : Int → Int → Int) (n v : Int) : Nat → Int → Int × Int × Int × Int
  | 0, p => (p, 0, 0, -1000)
  | r + 1, p => if (tr_sg (K p) (K (n - p)) v 3 0).2.2 = -1000 then tr_pt K n v r (p + 1) else (p, tr_sg (K p) (K (n - p)) v 3 0)
theorem tr_y_s {g : Int → Int} {s x v y : Int} {r : Nat} : tr_y g s x v (r + 1) y = if tr_op s x y = v then (if g y = 0 then tr_y g s x v r (y + 1) else y) else tr_y g s x v r (y + 1) := rfl
theorem tr_x_s {f g : Int → Int} {s v x : Int} {r : Nat} : tr_x f g s v (r + 1) x = if f x = 0 then tr_x f g s v r (x + 1) else if tr_y g s x v 1001 (-500) = -1000 then tr_x f g s v r (x + 1) else (x, tr_y g s x v 1001 (-500)) := rfl
theorem tr_sg_s {f g : Int → Int} {s v : Int} {r : Nat} : tr_sg f g v (r + 1) s = if (tr_x f g s v 1001 (-500)).2 = -1000 then tr_sg f g v r (s + 1) else (s, tr_x f g s v 1001 (-500)) := rfl
theorem tr_pt_s {K : Int → Int → Int} {n v p : Int} {r : Nat} : tr_pt K n v (r + 1) p = if (tr_sg (K p) (K (n - p)) v 3 0).2.2 = -1000 then tr_pt K n v r (p + 1) else (p, tr_sg (K p) (K (n - p)) v 3 0) := rfl
theorem tr_y_c {g : Int → Int} {s x v : Int} : ∀ (r : Nat) (a : Int), -500 ≤ a → (tr_y g s x v r a = -1000 ∧ ∀ y, a ≤ y → y < a + r → tr_op s x y = v → g y = 0) ∨ (a ≤ tr_y g s x v r a ∧ tr_y g s x v r a < a + r ∧ tr_op s x (tr_y g s x v r a) = v ∧ g (tr_y g s x v r a) ≠ 0)
  | 0, a, _ => Or.inl ⟨rfl, fun y y0 y1 => by omega⟩
  | r + 1, a, ha => by
    have ih := tr_y_c (g := g) (s := s) (x := x) (v := v) r (a + 1) (by omega)
    have nx : (tr_op s x a = v → g a = 0) → tr_y g s x v (r + 1) a = tr_y g s x v r (a + 1) := fun q => by
      rw [tr_y_s]
      by_cases c : tr_op s x a = v
      · rw [if_pos c, if_pos (q c)]
      · rw [if_neg c]
    by_cases c : tr_op s x a = v ∧ g a ≠ 0
    · right
      rw [tr_y_s, if_pos c.1, if_neg c.2]
      exact ⟨by omega, by omega, c.1, c.2⟩
    · rw [nx (fun q => Decidable.byContradiction (fun z => c ⟨q, z⟩))]
      rcases ih with ⟨i1, i2⟩ | ⟨i1, i2, i3, i4⟩
      · refine Or.inl ⟨i1, fun y y0 y1 hy => ?_⟩
        by_cases e : y = a
        · rw [e] at hy ⊢; exact Decidable.byContradiction (fun z => c ⟨hy, z⟩)
        · exact i2 y (by omega) (by omega) hy
      · exact Or.inr ⟨by omega, by omega, i3, i4⟩
/-- where only one partner can be -/
theorem tr_y_u {g : Int → Int} {s x v y0 : Int} (hu : ∀ y, -500 ≤ y → y ≤ 500 → tr_op s x y = v → y = y0) : tr_y g s x v 1001 (-500) = if (-500 ≤ y0 ∧ y0 ≤ 500) ∧ tr_op s x y0 = v ∧ g y0 ≠ 0 then y0 else -1000 := by
  rcases tr_y_c (g := g) (s := s) (x := x) (v := v) 1001 (-500) (by decide) with ⟨i1, i2⟩ | ⟨i1, i2, i3, i4⟩
  · rw [i1, if_neg (fun q => q.2.2 (i2 y0 q.1.1 (by omega) q.2.1))]
  · have e := hu _ i1 (by omega) i3
    rw [e] at i1 i2 i3 i4 ⊢
    rw [if_pos ⟨⟨i1, by omega⟩, i3, i4⟩]
theorem tr_x_c {f g : Int → Int} {s v : Int} : ∀ (r : Nat) (a : Int), -500 ≤ a → ((tr_x f g s v r a).2 = -1000 ∧ ∀ x y, a ≤ x → x < a + r → -500 ≤ y → y ≤ 500 → tr_op s x y = v → f x ≠ 0 → g y = 0) ∨ ((a ≤ (tr_x f g s v r a).1 ∧ (tr_x f g s v r a).1 < a + r) ∧ (-500 ≤ (tr_x f g s v r a).2 ∧ (tr_x f g s v r a).2 ≤ 500) ∧ f (tr_x f g s v r a).1 ≠ 0 ∧ g (tr_x f g s v r a).2 ≠ 0)
  | 0, a, _ => Or.inl ⟨rfl, fun x y x0 x1 => by omega⟩
  | r + 1, a, ha => by
    have ih := tr_x_c (f := f) (g := g) (s := s) (v := v) r (a + 1) (by omega)
    have yc := tr_y_c (g := g) (s := s) (x := a) (v := v) 1001 (-500) (by decide)
    by_cases c : f a = 0 ∨ tr_y g s a v 1001 (-500) = -1000
    · have nx : tr_x f g s v (r + 1) a = tr_x f g s v r (a + 1) := by
        rw [tr_x_s]
        rcases c with c | c
        · rw [if_pos c]
        · rw [if_pos c]; split <;> rfl
      rw [nx]
      rcases ih with ⟨i1, i2⟩ | ⟨i1, i2, i3, i4⟩
      · refine Or.inl ⟨i1, fun x y x0 x1 y0 y1 hy hf => ?_⟩
        by_cases e : x = a
        · rw [e] at hy hf
          rcases c with c | c
          · exact absurd c hf
          · rcases yc with ⟨_, j⟩ | ⟨j, _, _, _⟩
            · exact j y y0 (by omega) hy
            · omega
        · exact i2 x y (by omega) (by omega) y0 y1 hy hf
      · exact Or.inr ⟨by omega, i2, i3, i4⟩
    · have c1 : ¬ f a = 0 := fun z => c (Or.inl z)
      have c2 : ¬ tr_y g s a v 1001 (-500) = -1000 := fun z => c (Or.inr z)
      rw [tr_x_s, if_neg c1, if_neg c2]
      rcases yc with ⟨j, _⟩ | ⟨j1, j2, j3, j4⟩
      · exact absurd j c2
      · exact Or.inr ⟨⟨Int.le_refl _, by show a < a + ((r + 1 : Nat) : Int); omega⟩, ⟨j1, by show tr_y g s a v 1001 (-500) ≤ 500; omega⟩, c1, j4⟩
theorem tr_sg_c {f g : Int → Int} {v : Int} : ∀ (r : Nat) (a : Int), ((tr_sg f g v r a).2.2 = -1000 ∧ ∀ s x y, a ≤ s → s < a + r → -500 ≤ x → x ≤ 500 → -500 ≤ y → y ≤ 500 → tr_op s x y = v → f x ≠ 0 → g y = 0) ∨ ((a ≤ (tr_sg f g v r a).1 ∧ (tr_sg f g v r a).1 < a + r) ∧ (-500 ≤ (tr_sg f g v r a).2.1 ∧ (tr_sg f g v r a).2.1 ≤ 500) ∧ (-500 ≤ (tr_sg f g v r a).2.2 ∧ (tr_sg f g v r a).2.2 ≤ 500) ∧ f (tr_sg f g v r a).2.1 ≠ 0 ∧ g (tr_sg f g v r a).2.2 ≠ 0)
  | 0, a => Or.inl ⟨rfl, fun s x y s0 s1 => by omega⟩
  | r + 1, a => by
    have ih := tr_sg_c (f := f) (g := g) (v := v) r (a + 1)
    have xc := tr_x_c (f := f) (g := g) (s := a) (v := v) 1001 (-500) (by decide)
    by_cases c : (tr_x f g a v 1001 (-500)).2 = -1000
    · rw [tr_sg_s, if_pos c]
      rcases ih with ⟨i1, i2⟩ | ⟨i1, i2⟩
      · refine Or.inl ⟨i1, fun s x y s0 s1 x0 x1 y0 y1 hy hf => ?_⟩
        by_cases e : s = a
        · rw [e] at hy
          rcases xc with ⟨_, j⟩ | ⟨_, j, _, _⟩
          · exact j x y x0 (by omega) y0 y1 hy hf
          · omega
        · exact i2 s x y (by omega) (by omega) x0 x1 y0 y1 hy hf
      · exact Or.inr ⟨by omega, i2⟩
    · rw [tr_sg_s, if_neg c]
      rcases xc with ⟨j, _⟩ | ⟨j1, j2, j3, j4⟩
      · exact absurd j c
      · exact Or.inr ⟨⟨Int.le_refl _, by show a < a + ((r + 1 : Nat) : Int); omega⟩, ⟨j1.1, by show (tr_x f g a v 1001 (-500)).1 ≤ 500; omega⟩, j2, j3, j4⟩
theorem tr_pt_c {K : Int → Int → Int} {n v : Int} : ∀ (r : Nat) (a : Int), ((tr_pt K n v r a).2.2.2 = -1000 ∧ ∀ p s x y, a ≤ p → p < a + r → 0 ≤ s → s < 3 → -500 ≤ x → x ≤ 500 → -500 ≤ y → y ≤ 500 → tr_op s x y = v → K p x ≠ 0 → K (n - p) y = 0) ∨ ((a ≤ (tr_pt K n v r a).1 ∧ (tr_pt K n v r a).1 < a + r) ∧ (0 ≤ (tr_pt K n v r a).2.1 ∧ (tr_pt K n v r a).2.1 < 3) ∧ (-500 ≤ (tr_pt K n v r a).2.2.1 ∧ (tr_pt K n v r a).2.2.1 ≤ 500) ∧ (-500 ≤ (tr_pt K n v r a).2.2.2 ∧ (tr_pt K n v r a).2.2.2 ≤ 500) ∧ K (tr_pt K n v r a).1 (tr_pt K n v r a).2.2.1 ≠ 0 ∧ K (n - (tr_pt K n v r a).1) (tr_pt K n v r a).2.2.2 ≠ 0)
  | 0, a => Or.inl ⟨rfl, fun p s x y s0 s1 => by omega⟩
  | r + 1, a => by
    have ih := tr_pt_c (K := K) (n := n) (v := v) r (a + 1)
    have xc := tr_sg_c (f := K a) (g := K (n - a)) (v := v) 3 0
    by_cases c : (tr_sg (K a) (K (n - a)) v 3 0).2.2 = -1000
    · rw [tr_pt_s, if_pos c]
      rcases ih with ⟨i1, i2⟩ | ⟨i1, i2⟩
      · refine Or.inl ⟨i1, fun p s x y p0 p1 s0 s1 x0 x1 y0 y1 hy hf => ?_⟩
        by_cases e : p = a
        · rw [e] at hf ⊢
          rcases xc with ⟨_, j⟩ | ⟨_, _, j, _, _⟩
          · exact j s x y s0 (by omega) x0 x1 y0 y1 hy hf
          · omega
        · exact i2 p s x y (by omega) (by omega) s0 s1 x0 x1 y0 y1 hy hf
      · exact Or.inr ⟨by omega, i2⟩
    · rw [tr_pt_s, if_neg c]
      rcases xc with ⟨j, _⟩ | ⟨j1, j2, j3, j4, j5⟩
      · exact absurd j c
      · exact Or.inr ⟨⟨Int.le_refl _, by show a < a + ((r + 1 : Nat) : Int); omega⟩, ⟨j1.1, by show (tr_sg (K a) (K (n - a)) v 3 0).1 < 3; omega⟩, j2, j3, j4, j5⟩

/-! there is a parting -/
theorem tr_s_ne {h : Int → Int} : ∀ l : List Int, tr_s h l ≠ 0 → ∃ y ∈ l, h y ≠ 0
  | [], q => absurd rfl q
  | y :: l, q => by
    by_cases c : h y = 0
    · rw [tr_s_c, c] at q
      obtain ⟨z, hz, e⟩ := tr_s_ne l (fun z => q (by rw [z]; rfl))
      exact ⟨z, List.mem_cons_of_mem _ hz, e⟩
    · exact ⟨y, List.mem_cons_self, c⟩
theorem tr_j_ne {f g : Int → Int} {u : Int} (h : tr_j f g u ≠ 0) : ∃ s x y, (0 ≤ s ∧ s < 3) ∧ (-500 ≤ x ∧ x ≤ 500) ∧ (-500 ≤ y ∧ y ≤ 500) ∧ tr_op s x y = u ∧ f x ≠ 0 ∧ g y ≠ 0 := by
  obtain ⟨x, hx, ex⟩ := tr_s_ne _ h
  obtain ⟨y, hy, ey⟩ := tr_s_ne _ ex
  have e1 : f x ≠ 0 := fun z => ey (by show f x * g y * tr_c u x y = 0; rw [z, Int.zero_mul, Int.zero_mul])
  have e2 : g y ≠ 0 := fun z => ey (by show f x * g y * tr_c u x y = 0; rw [z, Int.mul_zero, Int.zero_mul])
  have e3 : tr_c u x y ≠ 0 := fun z => ey (by show f x * g y * tr_c u x y = 0; rw [z, Int.mul_zero])
  by_cases c0 : u = x + y
  · exact ⟨0, x, y, by decide, tr_V_m.mp hx, tr_V_m.mp hy, c0.symm, e1, e2⟩
  by_cases c1 : u = x - y
  · exact ⟨1, x, y, by decide, tr_V_m.mp hx, tr_V_m.mp hy, c1.symm, e1, e2⟩
  by_cases c2 : u = x * y
  · exact ⟨2, x, y, by decide, tr_V_m.mp hx, tr_V_m.mp hy, c2.symm, e1, e2⟩
  exact absurd (by unfold tr_c; rw [if_neg c0, if_neg c1, if_neg c2]; rfl) e3
theorem tr_K_ne {th : Int → Int} {m v : Int} (n : Nat) (h2 : 2 ≤ n) (h5 : n ≤ 5) (h : tr_K th m n v ≠ 0) : ∃ p s x y, (1 ≤ p ∧ p < (n : Int)) ∧ (0 ≤ s ∧ s < 3) ∧ (-500 ≤ x ∧ x ≤ 500) ∧ (-500 ≤ y ∧ y ≤ 500) ∧ tr_op s x y = v ∧ tr_K th m p x ≠ 0 ∧ tr_K th m ((n : Int) - p) y ≠ 0 := by
  have go : ∀ p : Int, 1 ≤ p → p < (n : Int) → tr_j (tr_K th m p) (tr_K th m ((n : Int) - p)) v ≠ 0 → ∃ p s x y, (1 ≤ p ∧ p < (n : Int)) ∧ (0 ≤ s ∧ s < 3) ∧ (-500 ≤ x ∧ x ≤ 500) ∧ (-500 ≤ y ∧ y ≤ 500) ∧ tr_op s x y = v ∧ tr_K th m p x ≠ 0 ∧ tr_K th m ((n : Int) - p) y ≠ 0 := fun p p0 p1 q => by
    obtain ⟨s, x, y, hs, hx, hy, e, e1, e2⟩ := tr_j_ne q
    exact ⟨p, s, x, y, ⟨p0, p1⟩, hs, hx, hy, e, e1, e2⟩
  have hc : n = 2 ∨ n = 3 ∨ n = 4 ∨ n = 5 := by omega
  rcases hc with rfl | rfl | rfl | rfl
  · exact go 1 (by decide) (by decide) h
  · have h' : tr_j (tr_l th m) (tr_2 th m) v + tr_j (tr_2 th m) (tr_l th m) v ≠ 0 := h
    by_cases c1 : tr_j (tr_l th m) (tr_2 th m) v = 0
    · exact go 2 (by decide) (by decide) (show tr_j (tr_2 th m) (tr_l th m) v ≠ 0 by omega)
    · exact go 1 (by decide) (by decide) c1
  · have h' : tr_j (tr_l th m) (tr_3 th m) v + tr_j (tr_2 th m) (tr_2 th m) v + tr_j (tr_3 th m) (tr_l th m) v ≠ 0 := h
    by_cases c1 : tr_j (tr_l th m) (tr_3 th m) v = 0
    · by_cases c2 : tr_j (tr_2 th m) (tr_2 th m) v = 0
      · exact go 3 (by decide) (by decide) (show tr_j (tr_3 th m) (tr_l th m) v ≠ 0 by omega)
      · exact go 2 (by decide) (by decide) c2
    · exact go 1 (by decide) (by decide) c1
  · have h' : tr_j (tr_l th m) (tr_4 th m) v + tr_j (tr_2 th m) (tr_3 th m) v + tr_j (tr_3 th m) (tr_2 th m) v + tr_j (tr_4 th m) (tr_l th m) v ≠ 0 := h
    by_cases c1 : tr_j (tr_l th m) (tr_4 th m) v = 0
    · by_cases c2 : tr_j (tr_2 th m) (tr_3 th m) v = 0
      · by_cases c3 : tr_j (tr_3 th m) (tr_2 th m) v = 0
        · exact go 4 (by decide) (by decide) (show tr_j (tr_4 th m) (tr_l th m) v ≠ 0 by omega)
        · exact go 3 (by decide) (by decide) c3
      · exact go 2 (by decide) (by decide) c2
    · exact go 1 (by decide) (by decide) c1

/-! a tree's signs, before its parts -/
def tr_lt (T : Int → Int) (v : Int) : Nat → Int → Int
  | 0, _ => -1
  | r + 1, t => if T t = v then 2000 + t else tr_lt T v r (t + 1)
theorem tr_lt_s {T : Int → Int} {v t : Int} {r : Nat} : tr_lt T v (r + 1) t = if T t = v then 2000 + t else tr_lt T v r (t + 1) := rfl
def tr_lf (T : Int → Int) (m v : Int) : Int := if 1 ≤ v ∧ v ≤ m then v else tr_lt T v 4 0
def tr_Wr (K : Int → Int → Int) (lf : Int → Int) : Nat → Int → Int → List Int → Prop
  | 0, _, _, _ => False
  | f + 1, n, v, l => (n = 1 ∧ l = [lf v]) ∨ (2 ≤ n ∧ ∃ p s x y l1 l2, tr_pt K n v (n - 1).toNat 1 = (p, s, x, y) ∧ y ≠ -1000 ∧ ((1 ≤ p ∧ p < n) ∧ (0 ≤ s ∧ s < 3) ∧ (-500 ≤ x ∧ x ≤ 500) ∧ -500 ≤ y ∧ y ≤ 500) ∧ tr_Wr K lf f p x l1 ∧ tr_Wr K lf f (n - p) y l2 ∧ l = (1000 + s) :: (l1 ++ l2))
theorem tr_Wr_l {K : Int → Int → Int} {lf : Int → Int} : ∀ (f : Nat) (n v : Int) (l : List Int), tr_Wr K lf f n v l → (l.length : Int) = 2 * n - 1
  | 0, n, v, l, h => False.elim h
  | f + 1, n, v, l, h => by
    rcases h with ⟨h1, h2⟩ | ⟨h1, p, s, x, y, l1, l2, h2, h3, h4, h5, h6, h7⟩
    · rw [h2, h1]; rfl
    · have a := tr_Wr_l f p x l1 h5
      have b := tr_Wr_l f (n - p) y l2 h6
      rw [h7, List.length_cons, List.length_append]
      omega
theorem tr_Wr_e {th : Int → Int} {m : Int} {lf : Int → Int} : ∀ (f n : Nat) (v : Int), 1 ≤ n → n ≤ f → n ≤ 5 → tr_K th m n v ≠ 0 → ∃ l, tr_Wr (tr_K th m) lf f n v l
  | 0, n, v, h1, h2, _, _ => by omega
  | f + 1, n, v, h1, h2, h5, h => by
    by_cases c : n = 1
    · exact ⟨[lf v], Or.inl ⟨by omega, rfl⟩⟩
    · obtain ⟨p, s, x, y, hp, hs, hx, hy, e, e1, e2⟩ := tr_K_ne n (by omega) h5 h
      rcases tr_pt_c (K := tr_K th m) (n := n) (v := v) ((n : Int) - 1).toNat 1 with ⟨_, j⟩ | ⟨j1, j2, j3, j4, j5, j6⟩
      · exact absurd (j p s x y hp.1 (by omega) hs.1 hs.2 hx.1 hx.2 hy.1 hy.2 e e1) e2
      · generalize hz : tr_pt (tr_K th m) n v ((n : Int) - 1).toNat 1 = z at j1 j2 j3 j4 j5 j6
        obtain ⟨p', s', x', y'⟩ := z
        have q1 : 1 ≤ p' ∧ p' < 1 + ((((n : Int) - 1).toNat : Nat) : Int) := j1
        obtain ⟨pn, hpn⟩ := Int.eq_ofNat_of_zero_le (show 0 ≤ p' by omega)
        have q5 : tr_K th m pn x' ≠ 0 := by rw [← hpn]; exact j5
        have e6 : (n : Int) - p' = ((n - pn : Nat) : Int) := by omega
        have q6 : tr_K th m ((n - pn : Nat) : Int) y' ≠ 0 := by rw [← e6]; exact j6
        obtain ⟨l1, w1⟩ := tr_Wr_e (lf := lf) f pn x' (by omega) (by omega) (by omega) q5
        obtain ⟨l2, w2⟩ := tr_Wr_e (lf := lf) f (n - pn) y' (by omega) (by omega) (by omega) q6
        rw [← hpn] at w1
        rw [← e6] at w2
        have q4 : -500 ≤ y' ∧ y' ≤ 500 := j4
        exact ⟨_, Or.inr ⟨by omega, p', s', x', y', l1, l2, hz, by omega, ⟨⟨q1.1, by omega⟩, j2, j3, q4⟩, w1, w2, rfl⟩⟩
def tr_put : List Int → Int → (Int → Int) → Int → Int
  | [], _, g => g
  | a :: l, o, g => tr_put l (o + 1) (zup g o a)
theorem tr_put_c {a o : Int} {l : List Int} {g : Int → Int} : tr_put (a :: l) o g = tr_put l (o + 1) (zup g o a) := rfl
theorem tr_put_a {l2 : List Int} : ∀ (l1 : List Int) (o : Int) (g : Int → Int), tr_put (l1 ++ l2) o g = tr_put l2 (o + l1.length) (tr_put l1 o g)
  | [], o, g => by
    show tr_put l2 o g = tr_put l2 (o + ((0 : Nat) : Int)) g
    rw [show o + ((0 : Nat) : Int) = o by omega]
  | a :: l1, o, g => by
    rw [List.cons_append, tr_put_c, tr_put_c, tr_put_a l1, List.length_cons, show o + 1 + (l1.length : Int) = o + ((l1.length + 1 : Nat) : Int) by omega]
theorem tr_put_b : ∀ (l : List Int) (o : Int) (g : Int → Int) (i : Int), i < o → tr_put l o g i = g i
  | [], o, g, i, _ => rfl
  | a :: l, o, g, i, h => by
    rw [tr_put_c, tr_put_b l (o + 1) _ i (by omega)]
    unfold zup
    rw [if_neg (by omega)]
theorem tr_put_i : ∀ (l : List Int) (o : Int) (g g' : Int → Int) (i : Int), o ≤ i → i < o + l.length → tr_put l o g i = tr_put l o g' i
  | [], o, g, g', i, h0, h1 => by
    have : i < o + ((0 : Nat) : Int) := h1
    omega
  | a :: l, o, g, g', i, h0, h1 => by
    rw [List.length_cons] at h1
    rw [tr_put_c, tr_put_c]
    by_cases c : i = o
    · rw [tr_put_b l (o + 1) _ i (by omega), tr_put_b l (o + 1) _ i (by omega)]
      unfold zup
      rw [if_pos c, if_pos c]
    · exact tr_put_i l (o + 1) _ _ i (by omega) (by omega)
end TR8
