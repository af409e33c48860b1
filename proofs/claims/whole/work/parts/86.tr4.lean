section TR4
variable {G : zG} {d : Nat} {M : zM} {Q : zV → zM → Prop}
theorem zpl_i {m n v m' n' v' : Int} (hn : 1 ≤ n ∧ n ≤ 5) (hn' : 1 ≤ n' ∧ n' ≤ 5) (h0 : -500 ≤ v) (h1 : v ≤ 500) (h2 : -500 ≤ v') (h3 : v' ≤ 500) (h : zpl m n v = zpl m' n' v') : m = m' ∧ n = n' ∧ v = v' := by
  unfold zpl at h; omega
theorem zpl_b {m n v : Int} (hm : 0 ≤ m ∧ m ≤ 9) (hn : 1 ≤ n ∧ n ≤ 5) (h0 : -500 ≤ v) (h1 : v ≤ 500) : zplr m n v ∧ (0 ≤ zpl m n v ∧ zpl m n v < 50050) := by
  unfold zpl zplr; omega
theorem zpl_a {m n v : Int} : zpl m n 0 + v = zpl m n v := by unfold zpl; omega
/-- two trees, in both orders or in one -/
def tr_d (tw u x y : Int) : Int := (if tw = 0 then 0 else (if u = y - x then 1 else 0)) + (if u = x - y then 1 else 0) + (if tw = 0 then 1 else 2) * (if u = x * y then 1 else 0) + (if tw = 0 then 1 else 2) * (if u = x + y then 1 else 0)
theorem tr_d_b (tw u x y : Int) : 0 ≤ tr_d tw u x y := by
  unfold tr_d
  repeat' (split)
  all_goals decide
theorem tr_d_m {tw p u x y : Int} : p * tr_d tw u x y = (((if u = y - x then (if tw = 0 then 0 else p) else 0) + (if u = x - y then p else 0)) + (if u = x * y then (if tw = 0 then p else 2 * p) else 0)) + (if u = x + y then (if tw = 0 then p else 2 * p) else 0) := by
  unfold tr_d
  rw [Int.mul_add, Int.mul_add, Int.mul_add]
  by_cases c : tw = 0
  · rw [if_pos c, if_pos c, if_pos c, if_pos c]
    split <;> split <;> split <;> split <;> simp <;> omega
  · rw [if_neg c, if_neg c, if_neg c, if_neg c]
    split <;> split <;> split <;> split <;> simp <;> omega
def tr_D (tw : Int) (f g : Int → Int) (u : Int) : Int := tr_s (fun x => tr_s (fun y => f x * g y * tr_d tw u x y) tr_V) tr_V
theorem tr_D0 {f g : Int → Int} {u : Int} : tr_D 0 f g u = tr_j f g u := tr_s_e _ (fun x _ => tr_s_e _ (fun y _ => by
  have : tr_d 0 u x y = tr_c u x y := by
    unfold tr_d tr_c
    rw [if_pos rfl, if_pos rfl]
    omega
  rw [this]))
theorem tr_D1 {f g : Int → Int} {u : Int} : tr_D 1 f g u = tr_j f g u + tr_j g f u := by
  have e : tr_j g f u = tr_s (fun x => tr_s (fun y => f x * g y * tr_c u y x) tr_V) tr_V := by
    unfold tr_j
    rw [tr_s_comm (f := fun x y => g x * f y * tr_c u x y)]
    exact tr_s_e _ (fun x _ => tr_s_e _ (fun y _ => by rw [Int.mul_comm (g y) (f x)]))
  rw [e]
  unfold tr_j
  rw [← tr_s_add]
  refine tr_s_e _ (fun x _ => ?_)
  rw [← tr_s_add]
  refine tr_s_e _ (fun y _ => ?_)
  rw [← Int.mul_add]
  congr 1
  unfold tr_d tr_c
  rw [if_neg (show ¬ ((1 : Int) = 0) by decide), if_neg (show ¬ ((1 : Int) = 0) by decide), Int.add_comm y x, Int.mul_comm y x]
  split <;> split <;> split <;> split <;> omega
theorem tr_s_fil {h : Int → Int} {p : Int → Bool} : ∀ l : List Int, (∀ y ∈ l, p y = false → h y = 0) → tr_s h l = tr_s h (l.filter p)
  | [], _ => rfl
  | y :: l, hz => by
    rw [tr_s_c, List.filter_cons, tr_s_fil l (fun z hy => hz z (List.mem_cons_of_mem _ hy))]
    cases c : p y with
    | true => rfl
    | false => rw [hz y List.mem_cons_self c]; exact Int.zero_add _
section JV
variable {M0 : zM} {m k x p q b y many into zero tw i cnt : Int} {rest fin : Int → Int}
theorem tr_ie (hm : 0 ≤ m ∧ m ≤ 9) (hk : 1 ≤ k ∧ k ≤ 5) : (∀ u u', -500 ≤ u → u ≤ 500 → -500 ≤ u' → u' ≤ 500 → zpl m k u = zpl m k u' → u = u') ∧ (∀ u, -500 ≤ u → u ≤ 500 → 0 ≤ zpl m k u ∧ zpl m k u < 1000000) := ⟨fun u u' h0 h1 h2 h3 h4 => (zpl_i hk hk h0 h1 h2 h3 h4).2.2, fun u u0 u1 => by have := (zpl_b hm hk u0 u1).2; omega⟩
theorem s_j122 (hG : zP G) (hm : 0 ≤ m ∧ m ≤ 9) (hk : 1 ≤ k ∧ k ≤ 5) (hi : into = zpl m k 0) (hx : -500 ≤ x ∧ x ≤ 500) (hy : -500 ≤ y ∧ y ≤ 500) (hp : 0 ≤ p) (ii : -1 ≤ i ∧ i ≤ 1001) (hf : ∀ u, -500 ≤ u → u ≤ 500 → 0 ≤ rest u ∧ fin u ≤ 2147483647) (hA : tr_A 171 (zpl m k) M0 M (fun u => (rest u + (if u = y - x then (if tw = 0 then 0 else p) else 0)) + (if u = x - y then p else 0)) fin) (nx : ∀ M', tr_A 171 (zpl m k) M0 M' rest fin → Y G d mX9_joinValue 3 [(2, 170), (0, x), (0, cnt), (0, zero), (0, many), (0, into), (0, tw), (0, i + 1), (9, 0), (9, 0), (9, 0)] [] M' Q) : Y G d mX9_joinValue 122 [(2, 170), (0, x), (0, cnt), (0, zero), (0, many), (0, into), (0, tw), (0, i), (0, y), (0, p), (0, b)] [] M Q := by
  obtain ⟨ie, ib⟩ := tr_ie hm hk
  have out : ¬ (-500 ≤ x - y ∧ x - y ≤ 500) → Y G d mX9_joinValue 181 [(2, 170), (0, x), (0, cnt), (0, zero), (0, many), (0, into), (0, tw), (0, i), (0, y), (0, p), (0, b)] [] M Q := fun c => bX9_joinValue_181 hG ⟨by omega, nx M (tr_A_e hA (fun u u0 u1 => by
    show (rest u + (if u = y - x then (if tw = 0 then 0 else p) else 0)) + (if u = x - y then p else 0) = rest u
    rw [if_neg (by omega), if_neg (by omega)]; omega))⟩
  refine bX9_joinValue_122 hG ⟨by omega, fun c => out (by omega), fun c => ⟨by omega, fun c2 => out (by omega), fun c2 => ?_⟩⟩
  subst hi
  have e1 : zpl m k 0 + x - y = zpl m k (x - y) := by unfold zpl; omega
  have e2 : zpl m k 0 + y - x = zpl m k (y - x) := by unfold zpl; omega
  have b1 := (zpl_b hm hk c c2).2
  have b2 := (zpl_b (v := y - x) hm hk (by omega) (by omega)).2
  have b3 := (zpl_b (v := 0) hm hk (by omega) (by omega)).2
  rw [e1, e2]
  have a := hA.2.2 (x - y) c c2
  have a' : 0 ≤ M 171 (zpl m k (x - y)) ∧ M 171 (zpl m k (x - y)) + ((rest (x - y) + (if x - y = y - x then (if tw = 0 then 0 else p) else 0)) + (if x - y = x - y then p else 0)) = fin (x - y) := a
  rw [if_pos rfl] at a'
  have f1 := hf (x - y) c c2
  have q0 : 0 ≤ (if tw = 0 then (0 : Int) else p) := by split <;> omega
  have q1 : 0 ≤ (if x - y = y - x then (if tw = 0 then 0 else p) else 0) := by split <;> omega
  have hA1 := tr_A_add hA ie ib hp c c2 (rest' := fun u => rest u + (if u = y - x then (if tw = 0 then 0 else p) else 0)) (fun u u0 u1 => rfl)
  refine ⟨by omega, by omega, by omega, by omega, by omega, fun t => bX9_joinValue_181 hG ⟨by omega, nx _ (tr_A_e hA1 (fun u u0 u1 => by
    show rest u + (if u = y - x then (if tw = 0 then 0 else p) else 0) = rest u
    rw [if_pos t]; split <;> omega))⟩, fun t => ?_⟩
  have w := hA1.2.2 (y - x) (by omega) (by omega)
  have w' : 0 ≤ zset M 171 (zpl m k (x - y)) (M 171 (zpl m k (x - y)) + p) 171 (zpl m k (y - x)) ∧ zset M 171 (zpl m k (x - y)) (M 171 (zpl m k (x - y)) + p) 171 (zpl m k (y - x)) + (rest (y - x) + (if y - x = y - x then (if tw = 0 then 0 else p) else 0)) = fin (y - x) := w
  rw [if_pos rfl, if_neg t] at w'
  have f2 := hf (y - x) (by omega) (by omega)
  refine ⟨by omega, by omega, by omega, by omega, by omega, bX9_joinValue_181 hG ⟨by omega, nx _ (tr_A_add hA1 ie ib hp (by omega) (by omega) (fun u u0 u1 => ?_))⟩⟩
  show rest u + (if u = y - x then (if tw = 0 then 0 else p) else 0) = rest u + (if u = y - x then p else 0)
  rw [if_neg t]
theorem s_j85 (hG : zP G) (hm : 0 ≤ m ∧ m ≤ 9) (hk : 1 ≤ k ∧ k ≤ 5) (hi : into = zpl m k 0) (hx : -500 ≤ x ∧ x ≤ 500) (hy : -500 ≤ y ∧ y ≤ 500) (hxy : -250000 ≤ x * y ∧ x * y ≤ 250000) (hb : 0 ≤ b) (hf : ∀ u, -500 ≤ u → u ≤ 500 → 0 ≤ rest u ∧ fin u ≤ 2147483647) (hA : tr_A 171 (zpl m k) M0 M (fun u => rest u + (if u = x * y then b else 0)) fin) (nx : ∀ M', tr_A 171 (zpl m k) M0 M' rest fin → Y G d mX9_joinValue 122 [(2, 170), (0, x), (0, cnt), (0, zero), (0, many), (0, into), (0, tw), (0, i), (0, y), (0, p), (0, b)] [] M' Q) : Y G d mX9_joinValue 85 [(2, 170), (0, x), (0, cnt), (0, zero), (0, many), (0, into), (0, tw), (0, i), (0, y), (0, p), (0, b)] [] M Q := by
  obtain ⟨ie, ib⟩ := tr_ie hm hk
  have out : ¬ (-500 ≤ x * y ∧ x * y ≤ 500) → Y G d mX9_joinValue 122 [(2, 170), (0, x), (0, cnt), (0, zero), (0, many), (0, into), (0, tw), (0, i), (0, y), (0, p), (0, b)] [] M Q := fun c => nx M (tr_A_e hA (fun u u0 u1 => by
    show rest u + (if u = x * y then b else 0) = rest u
    rw [if_neg (fun z => c (by omega))]; omega))
  refine bX9_joinValue_85 hG ⟨by omega, fun c => out (by omega), fun c => ⟨by omega, fun c2 => out (by omega), fun c2 => ?_⟩⟩
  subst hi
  rw [zpl_a]
  have b1 := (zpl_b hm hk c c2).2
  have a' : 0 ≤ M 171 (zpl m k (x * y)) ∧ M 171 (zpl m k (x * y)) + (rest (x * y) + (if x * y = x * y then b else 0)) = fin (x * y) := hA.2.2 (x * y) c c2
  rw [if_pos rfl] at a'
  have f1 := hf (x * y) c c2
  exact ⟨by omega, by omega, by omega, by omega, by omega, nx _ (tr_A_add hA ie ib hb c c2 (fun u u0 u1 => rfl))⟩
/-- one of the others -/
theorem s_j3 (hG : zP G) (hm : 0 ≤ m ∧ m ≤ 9) {r : Int} (hr : 1 ≤ r ∧ r ≤ 5) (hk : 1 ≤ k ∧ k ≤ 5) (hrk : r ≠ k) (hi : into = zpl m k 0) (hz : zero = zpl m r 0) (hx : -500 ≤ x ∧ x ≤ 500) (hy : -500 ≤ y ∧ y ≤ 500) (hxy : -250000 ≤ x * y ∧ x * y ≤ 250000) (hy2 : M 174 i = y) (hg : M 171 (zpl m r y) = q) (hp : cnt * q = p) (hp0 : 0 ≤ p ∧ p ≤ 1000000000) (ii : 0 ≤ i ∧ i < many ∧ i < 1001) (hf : ∀ u, -500 ≤ u → u ≤ 500 → 0 ≤ rest u ∧ fin u ≤ 2147483647) (hA : tr_A 171 (zpl m k) M0 M (fun u => p * tr_d tw u x y + rest u) fin) (nx : ∀ M', tr_A 171 (zpl m k) M0 M' rest fin → Y G d mX9_joinValue 3 [(2, 170), (0, x), (0, cnt), (0, zero), (0, many), (0, into), (0, tw), (0, i + 1), (9, 0), (9, 0), (9, 0)] [] M' Q) : Y G d mX9_joinValue 3 [(2, 170), (0, x), (0, cnt), (0, zero), (0, many), (0, into), (0, tw), (0, i), (9, 0), (9, 0), (9, 0)] [] M Q := by
  obtain ⟨ie, ib⟩ := tr_ie hm hk
  have bz := (zpl_b (v := y) hm hr hy.1 hy.2).2
  have bk0 := (zpl_b (v := 0) hm hk (by omega) (by omega)).2
  have q0 : 0 ≤ (if tw = 0 then (0 : Int) else p) := by split <;> omega
  have b0 : 0 ≤ (if tw = 0 then p else 2 * p) := by split <;> omega
  have nn1 : ∀ u, -500 ≤ u → u ≤ 500 → 0 ≤ (rest u + (if u = y - x then (if tw = 0 then 0 else p) else 0)) + (if u = x - y then p else 0) ∧ fin u ≤ 2147483647 := fun u u0 u1 => by
    have a := hf u u0 u1
    refine ⟨?_, a.2⟩
    have b1 : 0 ≤ (if u = y - x then (if tw = 0 then 0 else p) else 0) := by split <;> omega
    have b2 : 0 ≤ (if u = x - y then p else 0) := by split <;> omega
    omega
  have nn2 : ∀ u, -500 ≤ u → u ≤ 500 → 0 ≤ ((rest u + (if u = y - x then (if tw = 0 then 0 else p) else 0)) + (if u = x - y then p else 0)) + (if u = x * y then (if tw = 0 then p else 2 * p) else 0) ∧ fin u ≤ 2147483647 := fun u u0 u1 => by
    have a := nn1 u u0 u1
    refine ⟨?_, a.2⟩
    have b3 : 0 ≤ (if u = x * y then (if tw = 0 then p else 2 * p) else 0) := by split <;> omega
    omega
  have hA1 : tr_A 171 (zpl m k) M0 M (fun u => (((rest u + (if u = y - x then (if tw = 0 then 0 else p) else 0)) + (if u = x - y then p else 0)) + (if u = x * y then (if tw = 0 then p else 2 * p) else 0)) + (if u = x + y then (if tw = 0 then p else 2 * p) else 0)) fin := tr_A_e hA (fun u u0 u1 => by
    show p * tr_d tw u x y + rest u = _
    rw [tr_d_m]; omega)
  have go : ∀ M', tr_A 171 (zpl m k) M0 M' (fun u => ((rest u + (if u = y - x then (if tw = 0 then 0 else p) else 0)) + (if u = x - y then p else 0)) + (if u = x * y then (if tw = 0 then p else 2 * p) else 0)) fin → Y G d mX9_joinValue 85 [(2, 170), (0, x), (0, cnt), (0, zero), (0, many), (0, into), (0, tw), (0, i), (0, y), (0, p), (0, if tw = 0 then p else 2 * p)] [] M' Q := fun M' hA' => s_j85 hG hm hk hi hx hy hxy b0 nn1 hA' (fun M2 hA2 => s_j122 hG hm hk hi hx hy hp0.1 (by omega) hf hA2 nx)
  have out : ¬ (-500 ≤ x + y ∧ x + y ≤ 500) → Y G d mX9_joinValue 85 [(2, 170), (0, x), (0, cnt), (0, zero), (0, many), (0, into), (0, tw), (0, i), (0, y), (0, p), (0, if tw = 0 then p else 2 * p)] [] M Q := fun c => go M (tr_A_e hA1 (fun u u0 u1 => by
    show _ + (if u = x + y then (if tw = 0 then p else 2 * p) else 0) = _
    rw [if_neg (show ¬ u = x + y by omega)]; omega))
  have inn : ∀ (c : -500 ≤ x + y) (c2 : x + y ≤ 500), (-2147483648 ≤ M 171 (zpl m k (x + y)) + (if tw = 0 then p else 2 * p) ∧ M 171 (zpl m k (x + y)) + (if tw = 0 then p else 2 * p) ≤ 2147483647) ∧ Y G d mX9_joinValue 85 [(2, 170), (0, x), (0, cnt), (0, zero), (0, many), (0, into), (0, tw), (0, i), (0, y), (0, p), (0, if tw = 0 then p else 2 * p)] [] (zset M 171 (zpl m k (x + y)) (M 171 (zpl m k (x + y)) + (if tw = 0 then p else 2 * p))) Q := fun c c2 => by
    have a' : 0 ≤ M 171 (zpl m k (x + y)) ∧ M 171 (zpl m k (x + y)) + ((((rest (x + y) + (if x + y = y - x then (if tw = 0 then 0 else p) else 0)) + (if x + y = x - y then p else 0)) + (if x + y = x * y then (if tw = 0 then p else 2 * p) else 0)) + (if x + y = x + y then (if tw = 0 then p else 2 * p) else 0)) = fin (x + y) := hA1.2.2 (x + y) c c2
    rw [if_pos (rfl : x + y = x + y)] at a'
    have f1 := nn2 (x + y) c c2
    exact ⟨by omega, go _ (tr_A_add hA1 ie ib b0 c c2 (fun u u0 u1 => rfl))⟩
  have e1 : into + x + y = zpl m k (x + y) := by rw [hi]; unfold zpl; omega
  have p2 : 0 ≤ 2 * p ∧ 2 * p ≤ 2000000000 := by omega
  refine bX9_joinValue_3 hG ?_
  rw [hy2, hz, zpl_a, hg, hp, ← hz, e1]
  refine ⟨fun c => absurd c (by omega), fun _ => ⟨by omega, by omega, bz, by omega, fun t => ?_, fun t => ?_⟩⟩
  · rw [if_pos t] at out inn
    exact ⟨by omega, fun c => out (by omega), fun c => ⟨by omega, fun c2 => out (by omega), fun c2 => ⟨by omega, by have := (zpl_b hm hk c c2).2; omega, (zpl_b hm hk c c2).2, (inn c c2).1, (zpl_b hm hk c c2).2, (inn c c2).2⟩⟩⟩
  · rw [if_neg t] at out inn
    exact ⟨by omega, by omega, fun c => out (by omega), fun c => ⟨by omega, fun c2 => out (by omega), fun c2 => ⟨by omega, by have := (zpl_b hm hk c c2).2; omega, (zpl_b hm hk c c2).2, (inn c c2).1, (zpl_b hm hk c c2).2, (inn c c2).2⟩⟩⟩
end JV
end TR4
