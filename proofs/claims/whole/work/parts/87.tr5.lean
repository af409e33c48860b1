section TR5
variable {G : zG} {d : Nat} {M : zM} {Q : zV → zM → Prop}
theorem tr_xy {x y : Int} (hx : -500 ≤ x ∧ x ≤ 500) (hy : -500 ≤ y ∧ y ≤ 500) : -250000 ≤ x * y ∧ x * y ≤ 250000 := by
  have h1 : x * y ≤ 250000 := by
    rcases Int.le_total 0 x with a | a <;> rcases Int.le_total 0 y with e | e
    · have := tr_mm a e hx.2 hy.2; omega
    · have := Int.mul_nonneg a (show 0 ≤ -y by omega); rw [Int.mul_neg] at this; omega
    · have := Int.mul_nonneg (show 0 ≤ -x by omega) e; rw [Int.neg_mul] at this; omega
    · have := tr_mm (show 0 ≤ -x by omega) (show 0 ≤ -y by omega) (show -x ≤ 500 by omega) (show -y ≤ 500 by omega); rw [Int.neg_mul_neg] at this; omega
  have h2 : -250000 ≤ x * y := by
    rcases Int.le_total 0 x with a | a <;> rcases Int.le_total 0 y with e | e
    · have := Int.mul_nonneg a e; omega
    · have := tr_mm a (show 0 ≤ -y by omega) hx.2 (show -y ≤ 500 by omega); rw [Int.mul_neg] at this; omega
    · have := tr_mm (show 0 ≤ -x by omega) e (show -x ≤ 500 by omega) hy.2; rw [Int.neg_mul] at this; omega
    · have := Int.mul_nonneg (show 0 ≤ -x by omega) (show 0 ≤ -y by omega); rw [Int.neg_mul_neg] at this; omega
  exact ⟨h2, h1⟩
theorem tr_v_len : ∀ (r : Nat) (a : Int), (tr_v r a).length = r
  | 0, _ => rfl
  | r + 1, a => by show (tr_v r (a + 1)).length + 1 = r + 1; rw [tr_v_len r (a + 1)]
theorem s_tjoin (hG : zP G) {m l r : Int} {f g : Int → Int} (hm : 0 ≤ m ∧ m ≤ 9) (hl : 1 ≤ l) (hr : 1 ≤ r) (hk : l + r ≤ 5) (hf : ∀ x, -500 ≤ x → x ≤ 500 → M 171 (zpl m l x) = f x ∧ 0 ≤ f x) (hg : ∀ x, -500 ≤ x → x ≤ 500 → M 171 (zpl m r x) = g x ∧ 0 ≤ g x) (hp : ∀ x y, -500 ≤ x → x ≤ 500 → -500 ≤ y → y ≤ 500 → f x * g y ≤ 1000000000) (hc : ∀ u, -500 ≤ u → u ≤ 500 → 0 ≤ M 171 (zpl m (l + r) u) ∧ M 171 (zpl m (l + r) u) + tr_D (if l = r then 0 else 1) f g u ≤ 2147483647) (h : ∀ M', zfr [(171, 0, 1000000), (174, 0, 1000000)] M M' → (∀ i, 0 ≤ i → i < 1000000 → (∀ u, -500 ≤ u → u ≤ 500 → i ≠ zpl m (l + r) u) → M' 171 i = M 171 i) → (∀ u, -500 ≤ u → u ≤ 500 → M' 171 (zpl m (l + r) u) = M 171 (zpl m (l + r) u) + tr_D (if l = r then 0 else 1) f g u) → Q (9, 0) M') : Y G (d + 1) mX9_join 0 [(2, 170), (0, m), (0, l), (0, r), (9, 0), (9, 0), (9, 0), (9, 0)] [] M Q := by
  have hl5 : 1 ≤ l ∧ l ≤ 5 := by omega
  have hr5 : 1 ≤ r ∧ r ≤ 5 := by omega
  have hk5 : 1 ≤ l + r ∧ l + r ≤ 5 := by omega
  generalize htw : (if l = r then (0 : Int) else 1) = tw at *
  have bz := zpl_b (v := 0) hm hr5 (by omega) (by omega)
  -- those that there are
  generalize hL : tr_V.filter (fun y => decide (g y ≠ 0)) = Ls at *
  have hLm : ∀ y ∈ Ls, -500 ≤ y ∧ y ≤ 500 := fun y hy => by rw [← hL] at hy; exact tr_V_m.mp (List.mem_filter.mp hy).1
  have hLl : Ls.length ≤ 1001 := by
    rw [← hL]
    have := List.length_filter_le (fun y => decide (g y ≠ 0)) tr_V
    rw [tr_v_len] at this
    exact this
  have esum : ∀ (x u : Int), tr_s (fun y => f x * g y * tr_d tw u x y) tr_V = tr_s (fun y => f x * g y * tr_d tw u x y) Ls := fun x u => by
    rw [← hL]
    exact tr_s_fil _ (fun y _ hy => by
      have : g y = 0 := by simpa using hy
      show f x * g y * tr_d tw u x y = 0
      rw [this, Int.mul_zero, Int.zero_mul])
  -- the second half
  have sec : ∀ (N : zM), zfr [(174, 0, 1000000)] M N → (∀ i : Nat, i < Ls.length → N 174 i = Ls.getD i 0) → Y G (d + 1) mX9_join 60 [(2, 170), (0, m), (0, l), (0, r), (0, zpl m r 0), (0, (Ls.length : Int)), (0, -500), (9, 0)] [] N Q := fun N hN h174 => by
    have nr : ∀ i, 0 ≤ i → i < 1000000 → N 171 i = M 171 i := fun i i0 i1 => hN 171 i (by unfold zhw zhit; simp; omega)
    have nc : ∀ n v, (1 ≤ n ∧ n ≤ 5) → -500 ≤ v → v ≤ 500 → N 171 (zpl m n v) = M 171 (zpl m n v) := fun n v hn v0 v1 => by
      have := (zpl_b hm hn v0 v1).2
      exact nr _ this.1 (by omega)
    have nnx : ∀ (u : Int) (xs : List Int), (∀ z ∈ xs, -500 ≤ z ∧ z ≤ 500) → 0 ≤ tr_s (fun x => tr_s (fun y => f x * g y * tr_d tw u x y) tr_V) xs := fun u xs h1 => tr_s_nn _ (fun z hz => tr_s_nn _ (fun y hy => Int.mul_nonneg (Int.mul_nonneg (hf z (h1 z hz).1 (h1 z hz).2).2 (hg y (tr_V_m.mp hy).1 (tr_V_m.mp hy).2).2) (tr_d_b tw u z y)))
    have nny : ∀ (u x : Int) (ys : List Int), (-500 ≤ x ∧ x ≤ 500) → (∀ z ∈ ys, -500 ≤ z ∧ z ≤ 500) → 0 ≤ tr_s (fun y => f x * g y * tr_d tw u x y) ys := fun u x ys hx h1 => tr_s_nn _ (fun y hy => Int.mul_nonneg (Int.mul_nonneg (hf x hx.1 hx.2).2 (hg y (h1 y hy).1 (h1 y hy).2).2) (tr_d_b tw u x y))
    have rowN : ∀ {rest : Int → Int} {X : zM}, tr_A 171 (zpl m (l + r)) N X rest (fun u => M 171 (zpl m (l + r) u) + tr_D tw f g u) → ∀ n x, (1 ≤ n ∧ n ≤ 5) → n ≠ l + r → -500 ≤ x → x ≤ 500 → X 171 (zpl m n x) = M 171 (zpl m n x) := fun hA n x hn5 hn x0 x1 => (hA.2.1 _ (fun u u0 u1 z => hn (zpl_i hn5 hk5 x0 x1 u0 u1 z).2.1)).trans (nc n x hn5 x0 x1)
    have lx : ∀ (rx : Nat) (x : Int) (X : zM), -500 ≤ x → x + rx = 501 → tr_A 171 (zpl m (l + r)) N X (fun u => tr_s (fun x => tr_s (fun y => f x * g y * tr_d tw u x y) tr_V) (tr_v rx x)) (fun u => M 171 (zpl m (l + r) u) + tr_D tw f g u) → Y G (d + 1) mX9_join 60 [(2, 170), (0, m), (0, l), (0, r), (0, zpl m r 0), (0, (Ls.length : Int)), (0, x), (9, 0)] [] X Q := fun rx => by
      induction rx with
      | zero =>
        intro x X x0 hx hA
        refine bX9_join_60 hG ⟨fun _ => h X (zfr_trans (zfr_sub hN (by decide)) (zfr_sub hA.1 (by decide))) (fun i i0 i1 hi => ?_) (fun u u0 u1 => ?_), fun c => absurd c (by omega)⟩
        · rw [hA.2.1 i hi]; exact nr i i0 i1
        · have w : X 171 (zpl m (l + r) u) + 0 = M 171 (zpl m (l + r) u) + tr_D tw f g u := (hA.2.2 u u0 u1).2
          omega
      | succ rx ihx =>
        intro x X x0 hx hA
        have x1 : x ≤ 500 := by omega
        have b := zpl_b (v := x) hm hl5 x0 x1
        have fx := hf x x0 x1
        have bi := zpl_b (v := 0) hm hk5 (by omega) (by omega)
        refine bX9_join_60 hG ?_
        rw [rowN hA l x hl5 (by omega) x0 x1, fx.1]
        refine ⟨fun c => absurd c (by omega), fun _ => ⟨b.1, b.2, fun c => ⟨by omega, ihx (x + 1) X (by omega) (by omega) (tr_A_e hA (fun u u0 u1 => ?_))⟩, fun c => ⟨by omega, bi.1, ?_⟩⟩⟩
        · show tr_s (fun y => f x * g y * tr_d tw u x y) tr_V + _ = _
          rw [c, tr_s_e (f := fun y => 0 * g y * tr_d tw u x y) (g := fun _ => 0) tr_V (fun y _ => by rw [Int.zero_mul, Int.zero_mul]), tr_s_0]
          exact Int.zero_add _
        · -- the others beside this one
          have jv : Y G d mX9_joinValue 0 [(2, 170), (0, x), (0, f x), (0, zpl m r 0), (0, (Ls.length : Int)), (0, zpl m (l + r) 0), (0, tw), (9, 0), (9, 0), (9, 0), (9, 0)] [] X (fun r' M' => Y G (d + 1) mX9_join 117 [(2, 170), (0, m), (0, l), (0, r), (0, zpl m r 0), (0, (Ls.length : Int)), (0, x), (0, f x)] (zpush r' []) M' Q) := by
            have ly : ∀ (ys : List Int) (i : Nat) (X : zM), i + ys.length = Ls.length → Ls.drop i = ys → tr_A 171 (zpl m (l + r)) N X (fun u => tr_s (fun y => f x * g y * tr_d tw u x y) ys + tr_s (fun x => tr_s (fun y => f x * g y * tr_d tw u x y) tr_V) (tr_v rx (x + 1))) (fun u => M 171 (zpl m (l + r) u) + tr_D tw f g u) → Y G d mX9_joinValue 3 [(2, 170), (0, x), (0, f x), (0, zpl m r 0), (0, (Ls.length : Int)), (0, zpl m (l + r) 0), (0, tw), (0, (i : Int)), (9, 0), (9, 0), (9, 0)] [] X (fun r' M' => Y G (d + 1) mX9_join 117 [(2, 170), (0, m), (0, l), (0, r), (0, zpl m r 0), (0, (Ls.length : Int)), (0, x), (0, f x)] (zpush r' []) M' Q) := fun ys => by
              induction ys with
              | nil =>
                intro i X hi hd hA
                have hi' : i + 0 = Ls.length := hi
                exact bX9_joinValue_3 hG ⟨fun _ => bX9_join_117 hG ⟨by omega, ihx (x + 1) X (by omega) (by omega) (tr_A_e hA (fun u u0 u1 => by show 0 + _ = _; omega))⟩, fun c => absurd c (by omega)⟩
              | cons y ys ihy =>
                intro i X hi hd hA
                rw [List.length_cons] at hi
                have hil : i < Ls.length := by omega
                have hd' := List.drop_eq_getElem_cons hil
                rw [hd] at hd'
                have ey : Ls[i] = y := (List.cons.inj hd').1.symm
                have ed : Ls.drop (i + 1) = ys := (List.cons.inj hd').2.symm
                have ym : y ∈ Ls := by rw [← ey]; exact List.getElem_mem hil
                have yr := hLm y ym
                have gy := hg y yr.1 yr.2
                have y4 : X 174 (i : Int) = y := by
                  rw [hA.1 174 i (by unfold zhw zhit; simp; omega), h174 i hil, List.getD_eq_getElem?_getD, List.getElem?_eq_getElem hil, Option.getD_some]
                  exact ey
                have pn : 0 ≤ f x * g y := Int.mul_nonneg fx.2 gy.2
                refine s_j3 (m := m) (k := l + r) (r := r) (p := f x * g y) (q := g y) (y := y) (rest := fun u => tr_s (fun y => f x * g y * tr_d tw u x y) ys + tr_s (fun x => tr_s (fun y => f x * g y * tr_d tw u x y) tr_V) (tr_v rx (x + 1))) (fin := fun u => M 171 (zpl m (l + r) u) + tr_D tw f g u) (M0 := N) hG hm hr5 hk5 (by omega) rfl rfl ⟨x0, x1⟩ yr (tr_xy ⟨x0, x1⟩ yr) y4 (by rw [rowN hA r y hr5 (by omega) yr.1 yr.2]; exact gy.1) rfl ⟨pn, hp x y x0 x1 yr.1 yr.2⟩ ⟨by omega, by omega, by omega⟩ (fun u u0 u1 => ⟨?_, (hc u u0 u1).2⟩) (tr_A_e hA (fun u u0 u1 => ?_)) (fun M' hA' => ihy (i + 1) M' (by omega) ed hA')
                · have a1 := nny u x ys ⟨x0, x1⟩ (fun z hz => hLm z (by rw [← ed] at hz; exact List.mem_of_mem_drop hz))
                  have a2 := nnx u (tr_v rx (x + 1)) (fun z hz => by have := (tr_v_m rx (x + 1) z).mp hz; omega)
                  show 0 ≤ _ + _
                  omega
                · show (f x * g y * tr_d tw u x y + tr_s (fun y => f x * g y * tr_d tw u x y) ys) + _ = _
                  omega
            exact bX9_joinValue_0 hG (ly Ls 0 X (by omega) rfl (tr_A_e hA (fun u u0 u1 => by rw [← esum x u]; rfl)))
          have t01 : (l = r → tw = 0) ∧ (¬ l = r → tw = 1) := ⟨fun z => by rw [← htw, if_pos z], fun z => by rw [← htw, if_neg z]⟩
          exact ⟨fun z => by rw [t01.1 z] at jv; exact jv, fun z => by rw [t01.2 z] at jv; exact jv⟩
    exact lx 1001 (-500) N (by omega) (by omega) ⟨zfr_rfl, fun i _ => rfl, fun u u0 u1 => by
      rw [nc (l + r) u hk5 u0 u1]
      exact ⟨(hc u u0 u1).1, rfl⟩⟩
  -- the first half: which there are
  have fst : ∀ (rx : Nat) (x : Int) (P : List Int) (N : zM), -500 ≤ x → x + rx = 501 → Ls = P ++ (tr_v rx x).filter (fun y => decide (g y ≠ 0)) → zfr [(174, 0, 1000000)] M N → (∀ i : Nat, i < P.length → N 174 i = P.getD i 0) → Y G (d + 1) mX9_join 16 [(2, 170), (0, m), (0, l), (0, r), (0, zpl m r 0), (0, (P.length : Int)), (0, x), (9, 0)] [] N Q := fun rx => by
    induction rx with
    | zero =>
      intro x P N x0 hx hP hN h174
      have e : Ls = P := by rw [hP]; exact List.append_nil P
      subst e
      exact bX9_join_16 hG ⟨fun _ => sec N hN h174, fun c => absurd c (by omega)⟩
    | succ rx ih =>
      intro x P N x0 hx hP hN h174
      have x1 : x ≤ 500 := by omega
      have bx := (zpl_b (v := x) hm hr5 x0 x1).2
      have ng : N 171 (zpl m r x) = g x := by rw [hN 171 _ (by unfold zhw zhit; simp; omega)]; exact (hg x x0 x1).1
      have pl : P.length ≤ Ls.length := by rw [hP, List.length_append]; omega
      have hP' : Ls = P ++ (x :: tr_v rx (x + 1)).filter (fun y => decide (g y ≠ 0)) := hP
      rw [List.filter_cons] at hP'
      refine bX9_join_16 hG ?_
      rw [zpl_a, ng]
      refine ⟨fun c => absurd c (by omega), fun _ => ⟨by omega, bx, fun c => ⟨by omega, ih (x + 1) P N (by omega) (by omega) ?_ hN h174⟩, fun c => ?_⟩⟩
      · rw [if_neg (by simpa using c)] at hP'; exact hP'
      · rw [if_pos (by simpa using c)] at hP'
        have pl2 : P.length < 1001 := by
          have : Ls.length = P.length + (((tr_v rx (x + 1)).filter (fun y => decide (g y ≠ 0))).length + 1) := by rw [hP', List.length_append, List.length_cons]
          omega
        refine ⟨by omega, by omega, by omega, ?_⟩
        have nx := ih (x + 1) (P ++ [x]) (zset N 174 (P.length : Int) x) (by omega) (by omega) (by rw [hP', List.append_assoc]; rfl) (zfr_set hN (zhit_at 0 rfl (by omega))) (fun i hi => ?_)
        · rw [List.length_append] at nx
          exact nx
        · rw [List.length_append, List.length_singleton] at hi
          by_cases ci : i = P.length
          · rw [ci, zset_same, List.getD_eq_getElem?_getD, List.getElem?_append_right (Nat.le_refl _), Nat.sub_self]
            rfl
          · rw [zset_ne (fun z => ci (by have := z.2; omega)), h174 i (by omega), List.getD_eq_getElem?_getD, List.getD_eq_getElem?_getD, List.getElem?_append_left (by omega)]
  refine bX9_join_0 hG ⟨bz.1, ?_⟩
  exact fst 1001 (-500) [] M (by omega) (by omega) (by rw [← hL]; rfl) zfr_rfl (fun i hi => absurd hi (Nat.not_lt_zero i))
end TR5
