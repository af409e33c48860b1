section TR1
/-! sums over rows of whole numbers -/
def tr_s (h : Int → Int) : List Int → Int
  | [] => 0
  | y :: l => h y + tr_s h l
theorem tr_s_c {h : Int → Int} {y : Int} {l : List Int} : tr_s h (y :: l) = h y + tr_s h l := rfl
theorem tr_s_e {f g : Int → Int} : ∀ l : List Int, (∀ y ∈ l, f y = g y) → tr_s f l = tr_s g l
  | [], _ => rfl
  | y :: l, h => by rw [tr_s_c, tr_s_c, h y List.mem_cons_self, tr_s_e l (fun z hz => h z (List.mem_cons_of_mem _ hz))]
theorem tr_s_add {f g : Int → Int} : ∀ l : List Int, tr_s (fun y => f y + g y) l = tr_s f l + tr_s g l
  | [] => rfl
  | y :: l => by rw [tr_s_c, tr_s_c, tr_s_c, tr_s_add l]; omega
theorem tr_s_mul {f : Int → Int} {a : Int} : ∀ l : List Int, tr_s (fun y => a * f y) l = a * tr_s f l
  | [] => by show (0 : Int) = a * 0; rw [Int.mul_zero]
  | y :: l => by rw [tr_s_c, tr_s_c, tr_s_mul l, Int.mul_add]
theorem tr_s_mur {f : Int → Int} {a : Int} (l : List Int) : tr_s (fun y => f y * a) l = tr_s f l * a := by
  rw [Int.mul_comm, ← tr_s_mul]
  exact tr_s_e l (fun y _ => Int.mul_comm _ _)
theorem tr_s_0 : ∀ l : List Int, tr_s (fun _ => 0) l = 0
  | [] => rfl
  | y :: l => by rw [tr_s_c, tr_s_0 l]; rfl
theorem tr_s_nn {f : Int → Int} : ∀ l : List Int, (∀ y ∈ l, 0 ≤ f y) → 0 ≤ tr_s f l
  | [], _ => Int.le_refl 0
  | y :: l, h => by
    have a := h y List.mem_cons_self
    have b := tr_s_nn l (fun z hz => h z (List.mem_cons_of_mem _ hz))
    rw [tr_s_c]; omega
theorem tr_s_le {f g : Int → Int} : ∀ l : List Int, (∀ y ∈ l, f y ≤ g y) → tr_s f l ≤ tr_s g l
  | [], _ => Int.le_refl 0
  | y :: l, h => by
    have a := h y List.mem_cons_self
    have b := tr_s_le l (fun z hz => h z (List.mem_cons_of_mem _ hz))
    rw [tr_s_c, tr_s_c]; omega
theorem tr_s_mem {f : Int → Int} : ∀ (l : List Int) (x : Int), (∀ y ∈ l, 0 ≤ f y) → x ∈ l → f x ≤ tr_s f l
  | [], x, _, hx => absurd hx List.not_mem_nil
  | y :: l, x, h, hx => by
    have a := h y List.mem_cons_self
    have hr : ∀ z ∈ l, 0 ≤ f z := fun z hz => h z (List.mem_cons_of_mem _ hz)
    have b := tr_s_nn l hr
    rw [tr_s_c]
    rcases List.mem_cons.mp hx with e | e
    · rw [e]; omega
    · have := tr_s_mem l x hr e; omega
theorem tr_s_comm {f : Int → Int → Int} {l2 : List Int} : ∀ l1 : List Int, tr_s (fun x => tr_s (fun y => f x y) l2) l1 = tr_s (fun y => tr_s (fun x => f x y) l1) l2
  | [] => by
    show 0 = tr_s (fun y => tr_s (fun x => f x y) []) l2
    exact (tr_s_0 l2).symm
  | x :: l1 => by
    rw [tr_s_c, tr_s_comm l1]
    show tr_s (fun y => f x y) l2 + tr_s (fun y => tr_s (fun x => f x y) l1) l2 = tr_s (fun y => f x y + tr_s (fun x => f x y) l1) l2
    rw [tr_s_add]
def tr_v : Nat → Int → List Int
  | 0, _ => []
  | r + 1, a => a :: tr_v r (a + 1)
abbrev tr_V : List Int := tr_v 1001 (-500)
theorem tr_v_m : ∀ (r : Nat) (a x : Int), x ∈ tr_v r a ↔ a ≤ x ∧ x < a + r
  | 0, a, x => by
    show x ∈ ([] : List Int) ↔ _
    exact ⟨fun h => absurd h List.not_mem_nil, fun h => by omega⟩
  | r + 1, a, x => by
    show x ∈ a :: tr_v r (a + 1) ↔ _
    rw [List.mem_cons, tr_v_m r (a + 1) x]
    omega
theorem tr_V_m {x : Int} : x ∈ tr_V ↔ -500 ≤ x ∧ x ≤ 500 := by
  rw [tr_v_m]
  constructor <;> intro h <;> constructor <;> omega
theorem tr_s_ind {s c : Int} (hc : 0 ≤ c) : ∀ (r : Nat) (a : Int), tr_s (fun v => if v = s then c else 0) (tr_v r a) = if a ≤ s ∧ s < a + r then c else 0
  | 0, a => by
    show (0 : Int) = _
    rw [if_neg (by omega)]
  | r + 1, a => by
    show (if a = s then c else 0) + tr_s (fun v => if v = s then c else 0) (tr_v r (a + 1)) = _
    rw [tr_s_ind hc r (a + 1)]
    by_cases e : a = s
    · rw [if_pos e, if_neg (by omega), if_pos (by omega)]; omega
    · rw [if_neg e]
      by_cases z : a + 1 ≤ s ∧ s < a + 1 + r
      · rw [if_pos z, if_pos (by omega)]; omega
      · rw [if_neg z, if_neg (by omega)]; omega
/-- two trees beside each other: how often they come to u -/
def tr_c (u x y : Int) : Int := (if u = x + y then 1 else 0) + (if u = x - y then 1 else 0) + (if u = x * y then 1 else 0)
theorem tr_c_b (u x y : Int) : 0 ≤ tr_c u x y := by
  unfold tr_c
  split <;> split <;> split <;> decide
def tr_j (f g : Int → Int) (u : Int) : Int := tr_s (fun x => tr_s (fun y => f x * g y * tr_c u x y) tr_V) tr_V
abbrev tr_P (f : Int → Int) : Prop := ∀ x, -500 ≤ x → x ≤ 500 → 0 ≤ f x
abbrev tr_T (f : Int → Int) : Int := tr_s f tr_V
theorem tr_T_b {f : Int → Int} (h : tr_P f) {x : Int} (x0 : -500 ≤ x) (x1 : x ≤ 500) : f x ≤ tr_T f := tr_s_mem _ x (fun y hy => h y (tr_V_m.mp hy).1 (tr_V_m.mp hy).2) (tr_V_m.mpr ⟨x0, x1⟩)
theorem tr_T_n {f : Int → Int} (h : tr_P f) : 0 ≤ tr_T f := tr_s_nn _ (fun y hy => h y (tr_V_m.mp hy).1 (tr_V_m.mp hy).2)
theorem tr_j_n {f g : Int → Int} (hf : tr_P f) (hg : tr_P g) : tr_P (tr_j f g) := fun u _ _ => tr_s_nn _ (fun x hx => tr_s_nn _ (fun y hy => Int.mul_nonneg (Int.mul_nonneg (hf x (tr_V_m.mp hx).1 (tr_V_m.mp hx).2) (hg y (tr_V_m.mp hy).1 (tr_V_m.mp hy).2)) (tr_c_b u x y)))
theorem tr_c_T (x y : Int) : tr_s (fun u => tr_c u x y) tr_V ≤ 3 := by
  have e : tr_s (fun u => tr_c u x y) tr_V = tr_s (fun u => if u = x + y then 1 else 0) tr_V + tr_s (fun u => if u = x - y then 1 else 0) tr_V + tr_s (fun u => if u = x * y then 1 else 0) tr_V := by
    rw [← tr_s_add, ← tr_s_add]; rfl
  rw [e, tr_s_ind (by decide), tr_s_ind (by decide), tr_s_ind (by decide)]
  split <;> split <;> split <;> decide
theorem tr_j_T {f g : Int → Int} (hf : tr_P f) (hg : tr_P g) : tr_T (tr_j f g) ≤ 3 * (tr_T f * tr_T g) := by
  have e : tr_T (tr_j f g) = tr_s (fun x => tr_s (fun y => f x * g y * tr_s (fun u => tr_c u x y) tr_V) tr_V) tr_V := by
    show tr_s (fun u => tr_s (fun x => tr_s (fun y => f x * g y * tr_c u x y) tr_V) tr_V) tr_V = _
    rw [tr_s_comm (f := fun u x => tr_s (fun y => f x * g y * tr_c u x y) tr_V)]
    refine tr_s_e _ (fun x _ => ?_)
    rw [tr_s_comm (f := fun u y => f x * g y * tr_c u x y)]
    exact tr_s_e _ (fun y _ => tr_s_mul _)
  rw [e]
  have le : tr_s (fun x => tr_s (fun y => f x * g y * tr_s (fun u => tr_c u x y) tr_V) tr_V) tr_V ≤ tr_s (fun x => tr_s (fun y => f x * g y * 3) tr_V) tr_V := tr_s_le _ (fun x hx => tr_s_le _ (fun y hy => Int.mul_le_mul_of_nonneg_left (tr_c_T x y) (Int.mul_nonneg (hf x (tr_V_m.mp hx).1 (tr_V_m.mp hx).2) (hg y (tr_V_m.mp hy).1 (tr_V_m.mp hy).2))))
  refine Int.le_trans le (Int.le_of_eq ?_)
  have e2 : tr_s (fun x => tr_s (fun y => f x * g y * 3) tr_V) tr_V = tr_s (fun x => f x * (tr_T g * 3)) tr_V := tr_s_e _ (fun x _ => by
    rw [tr_s_mur (f := fun y => f x * g y), tr_s_mul, Int.mul_assoc])
  rw [e2, tr_s_mur]
  show tr_T f * (tr_T g * 3) = 3 * (tr_T f * tr_T g)
  rw [← Int.mul_assoc, Int.mul_comm]
/-! how many trees there are -/
def tr_l (th : Int → Int) (m v : Int) : Int := (if th 0 = v then 1 else 0) + (if th 1 = v then 1 else 0) + (if th 2 = v then 1 else 0) + (if th 3 = v then 1 else 0) + (if 1 ≤ v ∧ v ≤ m then 1 else 0)
def tr_2 (th : Int → Int) (m : Int) : Int → Int := tr_j (tr_l th m) (tr_l th m)
def tr_3 (th : Int → Int) (m v : Int) : Int := tr_j (tr_l th m) (tr_2 th m) v + tr_j (tr_2 th m) (tr_l th m) v
def tr_4 (th : Int → Int) (m v : Int) : Int := tr_j (tr_l th m) (tr_3 th m) v + tr_j (tr_2 th m) (tr_2 th m) v + tr_j (tr_3 th m) (tr_l th m) v
def tr_5 (th : Int → Int) (m v : Int) : Int := tr_j (tr_l th m) (tr_4 th m) v + tr_j (tr_2 th m) (tr_3 th m) v + tr_j (tr_3 th m) (tr_2 th m) v + tr_j (tr_4 th m) (tr_l th m) v
def tr_K (th : Int → Int) (m : Int) (k : Int) : Int → Int := if k = 1 then tr_l th m else if k = 2 then tr_2 th m else if k = 3 then tr_3 th m else if k = 4 then tr_4 th m else tr_5 th m
theorem tr_l_n {th : Int → Int} {m : Int} : tr_P (tr_l th m) := fun v _ _ => by
  unfold tr_l
  repeat' (split)
  all_goals decide
theorem tr_l_T {th : Int → Int} {m : Int} (hm : m ≤ 9) : tr_T (tr_l th m) ≤ 13 := by
  have ind : ∀ s : Int, tr_s (fun v => if s = v then 1 else 0) tr_V ≤ 1 := fun s => by
    have e : tr_s (fun v => if s = v then 1 else 0) tr_V = tr_s (fun v => if v = s then 1 else 0) tr_V := tr_s_e _ (fun v _ => by
      by_cases c : s = v
      · rw [if_pos c, if_pos c.symm]
      · rw [if_neg c, if_neg (fun z => c z.symm)])
    rw [e, tr_s_ind (by decide)]
    split <;> decide
  have nu : tr_s (fun v => if 1 ≤ v ∧ v ≤ m then 1 else 0) tr_V ≤ 9 := by
    have a : tr_s (fun v => if 1 ≤ v ∧ v ≤ m then 1 else 0) tr_V ≤ tr_s (fun v => tr_s (fun j => if j = v then 1 else 0) (tr_v 9 1)) tr_V := tr_s_le _ (fun v _ => by
      rw [tr_s_ind (by decide)]
      by_cases c : 1 ≤ v ∧ v ≤ m
      · rw [if_pos c, if_pos (by omega)]; decide
      · rw [if_neg c]; split <;> decide)
    rw [tr_s_comm (f := fun v j => if j = v then 1 else 0)] at a
    have b : tr_s (fun j => tr_s (fun v => if j = v then 1 else 0) tr_V) (tr_v 9 1) ≤ tr_s (fun _ => 1) (tr_v 9 1) := tr_s_le _ (fun j _ => ind j)
    have c : tr_s (fun _ => 1) (tr_v 9 1) = 9 := by decide
    omega
  have e : tr_T (tr_l th m) = tr_s (fun v => if th 0 = v then 1 else 0) tr_V + tr_s (fun v => if th 1 = v then 1 else 0) tr_V + tr_s (fun v => if th 2 = v then 1 else 0) tr_V + tr_s (fun v => if th 3 = v then 1 else 0) tr_V + tr_s (fun v => if 1 ≤ v ∧ v ≤ m then 1 else 0) tr_V := by
    rw [← tr_s_add, ← tr_s_add, ← tr_s_add, ← tr_s_add]; rfl
  have i0 := ind (th 0)
  have i1 := ind (th 1)
  have i2 := ind (th 2)
  have i3 := ind (th 3)
  omega
theorem tr_mm {a b A B : Int} (a0 : 0 ≤ a) (b0 : 0 ≤ b) (h1 : a ≤ A) (h2 : b ≤ B) : a * b ≤ A * B := Int.mul_le_mul h1 h2 b0 (Int.le_trans a0 h1)
theorem tr_add_n {f g : Int → Int} (hf : tr_P f) (hg : tr_P g) : tr_P (fun v => f v + g v) := fun v a b => by have := hf v a b; have := hg v a b; show 0 ≤ f v + g v; omega
section KB
variable {th : Int → Int} {m : Int}
theorem tr_2_n : tr_P (tr_2 th m) := tr_j_n tr_l_n tr_l_n
theorem tr_3_n : tr_P (tr_3 th m) := tr_add_n (tr_j_n tr_l_n tr_2_n) (tr_j_n tr_2_n tr_l_n)
theorem tr_4_n : tr_P (tr_4 th m) := tr_add_n (tr_add_n (tr_j_n tr_l_n tr_3_n) (tr_j_n tr_2_n tr_2_n)) (tr_j_n tr_3_n tr_l_n)
theorem tr_5_n : tr_P (tr_5 th m) := tr_add_n (tr_add_n (tr_add_n (tr_j_n tr_l_n tr_4_n) (tr_j_n tr_2_n tr_3_n)) (tr_j_n tr_3_n tr_2_n)) (tr_j_n tr_4_n tr_l_n)
theorem tr_jb {f g : Int → Int} {A B : Int} (hf : tr_P f) (hg : tr_P g) (h1 : tr_T f ≤ A) (h2 : tr_T g ≤ B) : tr_T (tr_j f g) ≤ 3 * (A * B) := by
  have a := tr_j_T hf hg
  have b := tr_mm (tr_T_n hf) (tr_T_n hg) h1 h2
  omega
theorem tr_2_T (hm : m ≤ 9) : tr_T (tr_2 th m) ≤ 507 := by
  have := tr_jb (tr_l_n (th := th) (m := m)) (tr_l_n (th := th) (m := m)) (tr_l_T hm) (tr_l_T hm)
  exact this
theorem tr_3_T (hm : m ≤ 9) : tr_T (tr_3 th m) ≤ 39546 := by
  have a := tr_jb (tr_l_n (th := th) (m := m)) (tr_2_n (th := th) (m := m)) (tr_l_T hm) (tr_2_T hm)
  have b := tr_jb (tr_2_n (th := th) (m := m)) (tr_l_n (th := th) (m := m)) (tr_2_T hm) (tr_l_T hm)
  have e : tr_T (tr_3 th m) = tr_T (tr_j (tr_l th m) (tr_2 th m)) + tr_T (tr_j (tr_2 th m) (tr_l th m)) := tr_s_add _
  omega
theorem tr_4_T (hm : m ≤ 9) : tr_T (tr_4 th m) ≤ 3855735 := by
  have a := tr_jb (tr_l_n (th := th) (m := m)) (tr_3_n (th := th) (m := m)) (tr_l_T hm) (tr_3_T hm)
  have b := tr_jb (tr_2_n (th := th) (m := m)) (tr_2_n (th := th) (m := m)) (tr_2_T hm) (tr_2_T hm)
  have c := tr_jb (tr_3_n (th := th) (m := m)) (tr_l_n (th := th) (m := m)) (tr_3_T hm) (tr_l_T hm)
  have e : tr_T (tr_4 th m) = tr_T (tr_j (tr_l th m) (tr_3 th m)) + tr_T (tr_j (tr_2 th m) (tr_2 th m)) + tr_T (tr_j (tr_3 th m) (tr_l th m)) := by
    rw [← tr_s_add, ← tr_s_add]; rfl
  omega
theorem tr_5_T (hm : m ≤ 9) : tr_T (tr_5 th m) ≤ 421046262 := by
  have a := tr_jb (tr_l_n (th := th) (m := m)) (tr_4_n (th := th) (m := m)) (tr_l_T hm) (tr_4_T hm)
  have b := tr_jb (tr_2_n (th := th) (m := m)) (tr_3_n (th := th) (m := m)) (tr_2_T hm) (tr_3_T hm)
  have c := tr_jb (tr_3_n (th := th) (m := m)) (tr_2_n (th := th) (m := m)) (tr_3_T hm) (tr_2_T hm)
  have d := tr_jb (tr_4_n (th := th) (m := m)) (tr_l_n (th := th) (m := m)) (tr_4_T hm) (tr_l_T hm)
  have e : tr_T (tr_5 th m) = tr_T (tr_j (tr_l th m) (tr_4 th m)) + tr_T (tr_j (tr_2 th m) (tr_3 th m)) + tr_T (tr_j (tr_3 th m) (tr_2 th m)) + tr_T (tr_j (tr_4 th m) (tr_l th m)) := by
    rw [← tr_s_add, ← tr_s_add, ← tr_s_add]; rfl
  omega
def tr_B (k : Int) : Int := if k = 1 then 13 else if k = 2 then 507 else if k = 3 then 39546 else if k = 4 then 3855735 else 421046262
theorem tr_K_b (hm : m ≤ 9) (k v : Int) (v0 : -500 ≤ v) (v1 : v ≤ 500) : 0 ≤ tr_K th m k v ∧ tr_K th m k v ≤ tr_B k := by
  unfold tr_K tr_B
  by_cases c1 : k = 1
  · rw [if_pos c1, if_pos c1]; exact ⟨tr_l_n v v0 v1, Int.le_trans (tr_T_b tr_l_n v0 v1) (tr_l_T hm)⟩
  rw [if_neg c1, if_neg c1]
  by_cases c2 : k = 2
  · rw [if_pos c2, if_pos c2]; exact ⟨tr_2_n v v0 v1, Int.le_trans (tr_T_b tr_2_n v0 v1) (tr_2_T hm)⟩
  rw [if_neg c2, if_neg c2]
  by_cases c3 : k = 3
  · rw [if_pos c3, if_pos c3]; exact ⟨tr_3_n v v0 v1, Int.le_trans (tr_T_b tr_3_n v0 v1) (tr_3_T hm)⟩
  rw [if_neg c3, if_neg c3]
  by_cases c4 : k = 4
  · rw [if_pos c4, if_pos c4]; exact ⟨tr_4_n v v0 v1, Int.le_trans (tr_T_b tr_4_n v0 v1) (tr_4_T hm)⟩
  rw [if_neg c4, if_neg c4]
  exact ⟨tr_5_n v v0 v1, Int.le_trans (tr_T_b tr_5_n v0 v1) (tr_5_T hm)⟩
end KB
/-! a row is added up: what it holds, and what is still to come -/
def tr_A (a : Int) (e : Int → Int) (M0 M : zM) (rest fin : Int → Int) : Prop := zfr [(a, 0, 1000000)] M0 M ∧ (∀ i, (∀ u, -500 ≤ u → u ≤ 500 → i ≠ e u) → M a i = M0 a i) ∧ ∀ u, -500 ≤ u → u ≤ 500 → 0 ≤ M a (e u) ∧ M a (e u) + rest u = fin u
theorem tr_A_e {a : Int} {e : Int → Int} {M0 M : zM} {rest rest' fin : Int → Int} (h : tr_A a e M0 M rest fin) (hr : ∀ u, -500 ≤ u → u ≤ 500 → rest u = rest' u) : tr_A a e M0 M rest' fin := ⟨h.1, h.2.1, fun u u0 u1 => by rw [← hr u u0 u1]; exact h.2.2 u u0 u1⟩
theorem tr_A_add {a : Int} {e : Int → Int} {M0 M : zM} {rest rest' fin : Int → Int} {v w : Int} (h : tr_A a e M0 M rest fin) (he : ∀ u u', -500 ≤ u → u ≤ 500 → -500 ≤ u' → u' ≤ 500 → e u = e u' → u = u') (hb : ∀ u, -500 ≤ u → u ≤ 500 → 0 ≤ e u ∧ e u < 1000000) (w0 : 0 ≤ w) (v0 : -500 ≤ v) (v1 : v ≤ 500) (hr : ∀ u, -500 ≤ u → u ≤ 500 → rest u = rest' u + (if u = v then w else 0)) : tr_A a e M0 (zset M a (e v) (M a (e v) + w)) rest' fin := by
  refine ⟨zfr_set h.1 (zhit_at 0 rfl (hb v v0 v1)), fun i hi => ?_, fun u u0 u1 => ?_⟩
  · rw [zset_ne (fun z => hi v v0 v1 z.2)]; exact h.2.1 i hi
  · have q := h.2.2 u u0 u1
    have r := hr u u0 u1
    by_cases c : u = v
    · rw [if_pos c] at r
      rw [c, zset_same]
      rw [c] at q r
      omega
    · rw [if_neg c] at r
      rw [zset_ne (fun z => c (he u v u0 u1 v0 v1 z.2))]
      omega
theorem tr_c_m {p u x y : Int} : p * tr_c u x y = (if u = x * y then p else 0) + (if u = x - y then p else 0) + (if u = x + y then p else 0) := by
  unfold tr_c
  rw [Int.mul_add, Int.mul_add]
  split <;> split <;> split <;> simp <;> omega
end TR1
