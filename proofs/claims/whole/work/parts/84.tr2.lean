section TR2
variable {G : zG} {d : Nat} {M : zM} {Q : zV → zM → Prop}
theorem zce_i {n v n' v' : Int} (h0 : -500 ≤ v) (h1 : v ≤ 500) (h2 : -500 ≤ v') (h3 : v' ≤ 500) (h : zce n v = zce n' v') : n = n' ∧ v = v' := by
  unfold zce at h; omega
theorem zce_b {n v : Int} (n0 : 0 ≤ n) (n1 : n ≤ 5) (h0 : -500 ≤ v) (h1 : v ≤ 500) : zcer n v ∧ (0 ≤ zce n v ∧ zce n v < 6006) := by
  unfold zce zcer; omega
/-- one sign of two trees -/
theorem m_s86 (hG : zP G) {M0 : zM} {l r x y p q s v : Int} {rest fin : Int → Int} (hl : 1 ≤ l) (hr : 1 ≤ r) (hk : l + r ≤ 5) (hs : 0 ≤ s ∧ s < 3) (hp : 0 ≤ p ∧ p ≤ 1000000000) (hq : 0 ≤ q ∧ q ≤ 1000000000) (hf : ∀ u, -500 ≤ u → u ≤ 500 → 0 ≤ rest u ∧ fin u ≤ 1000000000000) (hA : tr_A 264 (zce (l + r)) M0 M (fun u => rest u + (if u = v then p * q else 0)) fin) (nx : ∀ M', tr_A 264 (zce (l + r)) M0 M' rest fin → Y G (d + 1) mX12_join 72 [(2, 234), (0, l), (0, r), (0, x), (1, p), (9, 0), (0, y), (1, q), (9, 0), (0, s + 1), (9, 0)] [] M' Q) : Y G (d + 1) mX12_join 86 [(2, 234), (0, l), (0, r), (0, x), (1, p), (9, 0), (0, y), (1, q), (9, 0), (0, s), (9, 0)] [(0, v)] M Q := by
  have pq : 0 ≤ p * q := Int.mul_nonneg hp.1 hq.1
  have pq2 : p * q ≤ 1000000000 * 1000000000 := tr_mm hp.1 hq.1 hp.2 hq.2
  refine bX12_join_86 hG ⟨fun c => ?_, fun c => ⟨by omega, nx M (tr_A_e hA (fun u u0 u1 => ?_))⟩⟩
  · have b := zce_b (n := l + r) (v := v) (by omega) (by omega) c.1 c.2
    have a := hA.2.2 v c.1 c.2
    rw [show (fun u => rest u + (if u = v then p * q else 0)) v = rest v + p * q by show rest v + (if v = v then p * q else 0) = _; rw [if_pos rfl]] at a
    have f := hf v c.1 c.2
    refine ⟨by omega, b.1, b.2, ⟨by omega, by omega⟩, ⟨by omega, by omega⟩, b.2, by omega, nx _ (tr_A_add hA (fun u u' h0 h1 h2 h3 h4 => (zce_i h0 h1 h2 h3 h4).2) (fun u u0 u1 => by have := (zce_b (n := l + r) (v := u) (by omega) (by omega) u0 u1).2; omega) pq c.1 c.2 (fun u u0 u1 => rfl))⟩
  · show rest u + (if u = v then p * q else 0) = rest u
    rw [if_neg (fun z => c (by omega))]; omega
theorem m_join (hG : zP G) {l r : Int} {f g : Int → Int} (hl : 1 ≤ l) (hr : 1 ≤ r) (hk : l + r ≤ 5) (hf : ∀ x, -500 ≤ x → x ≤ 500 → M 264 (zce l x) = f x ∧ 0 ≤ f x ∧ f x ≤ 1000000000) (hg : ∀ x, -500 ≤ x → x ≤ 500 → M 264 (zce r x) = g x ∧ 0 ≤ g x ∧ g x ≤ 1000000000) (hc : ∀ u, -500 ≤ u → u ≤ 500 → 0 ≤ M 264 (zce (l + r) u) ∧ M 264 (zce (l + r) u) + tr_j f g u ≤ 1000000000000) (h : ∀ M', zfr [(264, 0, 1000000)] M M' → (∀ i, (∀ u, -500 ≤ u → u ≤ 500 → i ≠ zce (l + r) u) → M' 264 i = M 264 i) → (∀ u, -500 ≤ u → u ≤ 500 → M' 264 (zce (l + r) u) = M 264 (zce (l + r) u) + tr_j f g u) → Q (9, 0) M') : Y G (d + 1) mX12_join 0 [(2, 234), (0, l), (0, r), (9, 0), (9, 0), (9, 0), (9, 0), (9, 0), (9, 0), (9, 0), (9, 0)] [] M Q := by
  have rowN : ∀ {rest : Int → Int} {X : zM}, tr_A 264 (zce (l + r)) M X rest (fun u => M 264 (zce (l + r) u) + tr_j f g u) → ∀ n x, n ≠ l + r → -500 ≤ x → x ≤ 500 → X 264 (zce n x) = M 264 (zce n x) := fun hA n x hn x0 x1 => hA.2.1 _ (fun u u0 u1 z => hn (zce_i x0 x1 u0 u1 z).1)
  have nn : ∀ (u : Int) (xs ys : List Int) (x : Int), (-500 ≤ x ∧ x ≤ 500) → (∀ z ∈ xs, -500 ≤ z ∧ z ≤ 500) → (∀ z ∈ ys, -500 ≤ z ∧ z ≤ 500) → 0 ≤ tr_s (fun y => f x * g y * tr_c u x y) ys + tr_s (fun x => tr_s (fun y => f x * g y * tr_c u x y) tr_V) xs := fun u xs ys x hx h1 h2 => by
    have a := tr_s_nn (f := fun y => f x * g y * tr_c u x y) ys (fun y hy => Int.mul_nonneg (Int.mul_nonneg (hf x hx.1 hx.2).2.1 (hg y (h2 y hy).1 (h2 y hy).2).2.1) (tr_c_b u x y))
    have b := tr_s_nn (f := fun x => tr_s (fun y => f x * g y * tr_c u x y) tr_V) xs (fun z hz => tr_s_nn _ (fun y hy => Int.mul_nonneg (Int.mul_nonneg (hf z (h1 z hz).1 (h1 z hz).2).2.1 (hg y (tr_V_m.mp hy).1 (tr_V_m.mp hy).2).2.1) (tr_c_b u z y)))
    omega
  have lx : ∀ (rx : Nat) (x : Int) (X : zM), -500 ≤ x → x + rx = 501 → tr_A 264 (zce (l + r)) M X (fun u => tr_s (fun x => tr_s (fun y => f x * g y * tr_c u x y) tr_V) (tr_v rx x)) (fun u => M 264 (zce (l + r) u) + tr_j f g u) → Y G (d + 1) mX12_join 4 [(2, 234), (0, l), (0, r), (0, x), (9, 0), (9, 0), (9, 0), (9, 0), (9, 0), (9, 0), (9, 0)] [] X Q := fun rx => by
    induction rx with
    | zero =>
      intro x X x0 hx hA
      refine bX12_join_4 hG ⟨fun _ => h X hA.1 hA.2.1 (fun u u0 u1 => ?_), fun c => absurd c (by omega)⟩
      have w : X 264 (zce (l + r) u) + 0 = M 264 (zce (l + r) u) + tr_j f g u := (hA.2.2 u u0 u1).2
      omega
    | succ rx ihx =>
      intro x X x0 hx hA
      have x1 : x ≤ 500 := by omega
      have b := zce_b (n := l) (v := x) (by omega) (by omega) x0 x1
      have fx := hf x x0 x1
      refine bX12_join_4 hG ?_
      rw [rowN hA l x (by omega) x0 x1, fx.1]
      refine ⟨fun c => absurd c (by omega), fun _ => ⟨b.1, b.2, fun c => ?_, fun c => ⟨by omega, ihx (x + 1) X (by omega) (by omega) (tr_A_e hA (fun u u0 u1 => ?_))⟩⟩⟩
      · -- the inner loop
        have ly : ∀ (ry : Nat) (y : Int) (X : zM), -500 ≤ y → y + ry = 501 → tr_A 264 (zce (l + r)) M X (fun u => tr_s (fun y => f x * g y * tr_c u x y) (tr_v ry y) + tr_s (fun x => tr_s (fun y => f x * g y * tr_c u x y) tr_V) (tr_v rx (x + 1))) (fun u => M 264 (zce (l + r) u) + tr_j f g u) → Y G (d + 1) mX12_join 38 [(2, 234), (0, l), (0, r), (0, x), (1, f x), (9, 0), (0, y), (9, 0), (9, 0), (9, 0), (9, 0)] [] X Q := fun ry => by
          induction ry with
          | zero =>
            intro y X y0 hy hA
            exact bX12_join_38 hG ⟨fun _ => ⟨by omega, ihx (x + 1) X (by omega) (by omega) (tr_A_e hA (fun u u0 u1 => by show 0 + _ = _; omega))⟩, fun c => absurd c (by omega)⟩
          | succ ry ihy =>
            intro y X y0 hy hA
            have y1 : y ≤ 500 := by omega
            have b2 := zce_b (n := r) (v := y) (by omega) (by omega) y0 y1
            have gy := hg y y0 y1
            refine bX12_join_38 hG ?_
            rw [rowN hA r y (by omega) y0 y1, gy.1]
            refine ⟨fun c => absurd c (by omega), fun _ => ⟨b2.1, b2.2, fun c2 => ?_, fun c2 => ⟨by omega, ihy (y + 1) X (by omega) (by omega) (tr_A_e hA (fun u u0 u1 => ?_))⟩⟩⟩
            · have pq : 0 ≤ f x * g y := Int.mul_nonneg fx.2.1 gy.2.1
              have rn : ∀ u, -500 ≤ u → u ≤ 500 → 0 ≤ tr_s (fun y => f x * g y * tr_c u x y) (tr_v ry (y + 1)) + tr_s (fun x => tr_s (fun y => f x * g y * tr_c u x y) tr_V) (tr_v rx (x + 1)) ∧ M 264 (zce (l + r) u) + tr_j f g u ≤ 1000000000000 := fun u u0 u1 => ⟨nn u _ _ x ⟨x0, x1⟩ (fun z hz => by have := (tr_v_m rx (x + 1) z).mp hz; omega) (fun z hz => by have := (tr_v_m ry (y + 1) z).mp hz; omega), (hc u u0 u1).2⟩
              have mul : -250000 ≤ x * y ∧ x * y ≤ 250000 := by
                have h1 : x * y ≤ 250000 := by
                  rcases Int.le_total 0 x with a | a <;> rcases Int.le_total 0 y with e | e
                  · have := tr_mm a e x1 y1; omega
                  · have := Int.mul_nonneg a (show 0 ≤ -y by omega); rw [Int.mul_neg] at this; omega
                  · have := Int.mul_nonneg (show 0 ≤ -x by omega) e; rw [Int.neg_mul] at this; omega
                  · have := tr_mm (show 0 ≤ -x by omega) (show 0 ≤ -y by omega) (show -x ≤ 500 by omega) (show -y ≤ 500 by omega); rw [Int.neg_mul_neg] at this; omega
                have h2 : -250000 ≤ x * y := by
                  rcases Int.le_total 0 x with a | a <;> rcases Int.le_total 0 y with e | e
                  · have := Int.mul_nonneg a e; omega
                  · have := tr_mm a (show 0 ≤ -y by omega) x1 (show -y ≤ 500 by omega); rw [Int.mul_neg] at this; omega
                  · have := tr_mm (show 0 ≤ -x by omega) e (show -x ≤ 500 by omega) y1; rw [Int.neg_mul] at this; omega
                  · have := Int.mul_nonneg (show 0 ≤ -x by omega) (show 0 ≤ -y by omega); rw [Int.neg_mul_neg] at this; omega
                exact ⟨h2, h1⟩
              have i1 : ∀ (s : Int) (u : Int), 0 ≤ (if u = s then f x * g y else 0) := fun s u => by split; exact pq; exact Int.le_refl 0
              have s3 : ∀ X', tr_A 264 (zce (l + r)) M X' (fun u => tr_s (fun y => f x * g y * tr_c u x y) (tr_v ry (y + 1)) + tr_s (fun x => tr_s (fun y => f x * g y * tr_c u x y) tr_V) (tr_v rx (x + 1))) (fun u => M 264 (zce (l + r) u) + tr_j f g u) → Y G (d + 1) mX12_join 72 [(2, 234), (0, l), (0, r), (0, x), (1, f x), (9, 0), (0, y), (1, g y), (9, 0), (0, 2 + 1), (9, 0)] [] X' Q := fun X' hA' => bX12_join_72 hG ⟨fun _ => ⟨by omega, ihy (y + 1) X' (by omega) (by omega) hA'⟩, fun c => absurd c (by decide)⟩
              have s2 : ∀ X', tr_A 264 (zce (l + r)) M X' (fun u => (tr_s (fun y => f x * g y * tr_c u x y) (tr_v ry (y + 1)) + tr_s (fun x => tr_s (fun y => f x * g y * tr_c u x y) tr_V) (tr_v rx (x + 1))) + (if u = x * y then f x * g y else 0)) (fun u => M 264 (zce (l + r) u) + tr_j f g u) → Y G (d + 1) mX12_join 72 [(2, 234), (0, l), (0, r), (0, x), (1, f x), (9, 0), (0, y), (1, g y), (9, 0), (0, 1 + 1), (9, 0)] [] X' Q := fun X' hA' => bX12_join_72 hG ⟨fun c => absurd c (by decide), fun _ => bX12_two_0 hG ⟨fun _ => ⟨fun _ => ⟨by omega, m_s86 hG hl hr hk (s := 2) (by decide) fx.2 gy.2 rn hA' s3⟩, fun z => absurd z (by decide)⟩, fun z => absurd z (by decide)⟩⟩
              have s1 : ∀ X', tr_A 264 (zce (l + r)) M X' (fun u => ((tr_s (fun y => f x * g y * tr_c u x y) (tr_v ry (y + 1)) + tr_s (fun x => tr_s (fun y => f x * g y * tr_c u x y) tr_V) (tr_v rx (x + 1))) + (if u = x * y then f x * g y else 0)) + (if u = x - y then f x * g y else 0)) (fun u => M 264 (zce (l + r) u) + tr_j f g u) → Y G (d + 1) mX12_join 72 [(2, 234), (0, l), (0, r), (0, x), (1, f x), (9, 0), (0, y), (1, g y), (9, 0), (0, 0 + 1), (9, 0)] [] X' Q := fun X' hA' => bX12_join_72 hG ⟨fun c => absurd c (by decide), fun _ => bX12_two_0 hG ⟨fun _ => ⟨fun z => absurd rfl z, fun _ => ⟨by omega, m_s86 hG hl hr hk (s := 1) (by decide) fx.2 gy.2 (fun u u0 u1 => ⟨by have := (rn u u0 u1).1; have := i1 (x * y) u; omega, (rn u u0 u1).2⟩) hA' s2⟩⟩, fun z => absurd z (by decide)⟩⟩
              refine bX12_join_72 hG ⟨fun c => absurd c (by decide), fun _ => bX12_two_0 hG ⟨fun z => absurd rfl z, fun _ => ⟨by omega, m_s86 hG hl hr hk (s := 0) (by decide) fx.2 gy.2 (fun u u0 u1 => ⟨by have := (rn u u0 u1).1; have := i1 (x * y) u; have := i1 (x - y) u; omega, (rn u u0 u1).2⟩) (tr_A_e hA (fun u u0 u1 => ?_)) s1⟩⟩⟩
              show (f x * g y * tr_c u x y + tr_s (fun y => f x * g y * tr_c u x y) (tr_v ry (y + 1))) + _ = _
              rw [tr_c_m]
              omega
            · have z : g y = 0 := by rw [zlcmp_eq] at c2; exact c2
              show (f x * g y * tr_c u x y + tr_s (fun y => f x * g y * tr_c u x y) (tr_v ry (y + 1))) + _ = _
              rw [z, Int.mul_zero, Int.zero_mul]
              omega
        exact ly 1001 (-500) X (by omega) (by omega) (tr_A_e hA (fun u u0 u1 => rfl))
      · have z : f x = 0 := by rw [zlcmp_eq] at c; exact c
        show tr_s (fun y => f x * g y * tr_c u x y) tr_V + _ = _
        rw [z, tr_s_e (f := fun y => 0 * g y * tr_c u x y) (g := fun _ => 0) tr_V (fun y _ => by rw [Int.zero_mul, Int.zero_mul]), tr_s_0]
        exact Int.zero_add _
  refine bX12_join_0 hG (lx 1001 (-500) M (by omega) (by omega) ⟨zfr_rfl, fun i _ => rfl, fun u u0 u1 => ⟨(hc u u0 u1).1, rfl⟩⟩)
end TR2
