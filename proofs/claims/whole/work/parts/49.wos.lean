section WP
variable {G : zG} {d : Nat} {M : zM} {Q : zV → zM → Prop}
theorem s_fill5 (hG : zP G) {r0 x1 : Int} {nr0 : Nat} (hr0 : zsh r0.toNat = (100, nr0)) (hlen : nr0 < 100000) (f : Int → Int) : ∀ (k : Nat) (x2 : Int), 0 ≤ x2 → x2 + k = nr0 → Q (9, 0) (zrow M r0 (zfil f x1 nr0)) → Y G d mJ7_fill_53178 5 [(2, r0), (0, x1), (0, x2), (0, (nr0 : Int))] [] (zrow M r0 (zfil f x1 x2)) Q
  | 0, x2, h0, h1, h => bJ7_fill_53178_5 hG hr0 ⟨fun _ => by rw [show x2 = (nr0 : Int) by omega]; exact h, fun q => absurd q (by omega)⟩
  | k + 1, x2, h0, h1, h => bJ7_fill_53178_5 hG hr0 ⟨fun q => absurd q (by omega), fun q => ⟨⟨h0, q⟩, by omega, by
      rw [zset_row, zfil_up f x1 h0]
      exact s_fill5 hG hr0 hlen f k (x2 + 1) (by omega) (by omega) h⟩⟩
theorem s_fill (hG : zP G) {r0 x1 : Int} {nr0 : Nat} (hr0 : zsh r0.toNat = (100, nr0)) (h0 : nr0 ≠ 0) (h : Q (9, 0) (zrow M r0 (zfil (M r0) x1 nr0))) : Y G d mJ7_fill_53178 0 [(2, r0), (0, x1), (9, 0), (9, 0)] [] M Q := by
  have hlen : nr0 < 100000 := by have q := zsh_small r0.toNat; rw [hr0] at q; exact q
  refine bJ7_fill_53178_0 hG hr0 ⟨h0, ?_⟩
  have := s_fill5 (M := M) (Q := Q) (d := d) hG hr0 hlen (M r0) nr0 0 (by omega) (by omega) h
  rw [zfil_0, zrow_self] at this
  exact this
/-! an answer is the same where its places are -/
theorem zev_e {A B th : Int → Int} {st v : Int} {c : Int → Int} (hA : zVA A) (e1 : B 1 = A 1) (e : ∀ i, 14 ≤ i → i < 74 → B i = A i) : zev B th st v c = zev A th st v c := by
  have n := hA.2.1.1
  have k : ∀ x y, zkI B x y = zkI A x y := fun x y => by
    unfold zkI
    rw [e1]
    by_cases q : (0 ≤ x ∧ x < A 1) ∧ 0 ≤ y ∧ y < A 1
    · rw [if_pos q, if_pos q, zE_B (Or.inr rfl) n.2 (zk0_E n.2 (fun i i0 i1 => e i (by omega) (by omega))) x y q.1.1 q.1.2 q.2.1 q.2.2]
    · rw [if_neg q, if_neg q]
  have w : ∀ x y, zwI B x y = zwI A x y := fun x y => by
    unfold zwI
    by_cases q : (0 ≤ x ∧ x < 6) ∧ 0 ≤ y ∧ y < 6
    · rw [if_pos q, if_pos q, zE_B (Or.inl rfl) (by decide) (zw0_E (fun i i0 i1 => e i (by omega) (by omega))) x y q.1.1 q.1.2 q.2.1 q.2.2]
    · rw [if_neg q, if_neg q]
  have a : (if 0 ≤ c 0 ∧ c 0 < A 1 then B (14 + 3 * c 0) else -1) = (if 0 ≤ c 0 ∧ c 0 < A 1 then A (14 + 3 * c 0) else -1) := by
    by_cases q : 0 ≤ c 0 ∧ c 0 < A 1
    · rw [if_pos q, if_pos q, e _ (by omega) (by omega)]
    · rw [if_neg q, if_neg q]
  unfold zev
  rw [e1, k, w, a, zch_e (A := A) (B := B) (c 0) (A 1).toNat (by omega) (fun i i0 i1 => e i (by omega) (by omega))]
theorem zvt_e {A B th st v st' v' : Int → Int} (hA : zVA A) (e1 : B 1 = A 1) (e : ∀ i, 14 ≤ i → i < 74 → B i = A i) : ∀ n : Nat, (∀ k : Nat, k < n → st' k = st k ∧ v' k = v k) → zvt B th st' v' n = zvt A th st v n
  | 0, _ => rfl
  | n + 1, h => by
    have i := zvt_e (th := th) hA e1 e n (fun k hk => h k (by omega))
    have c := (zcd_e (st := st) (v := v) (st' := st') (v' := v') (k := n) h).2
    show zup (zvt B th st' v' n) n (zev B th (st' n) (v' n) (fun j => zvt B th st' v' n (zcd st' v' n j))) = zup (zvt A th st v n) n (zev A th (st n) (v n) (fun j => zvt A th st v n (zcd st v n j)))
    rw [i, (h n (by omega)).1, (h n (by omega)).2, zev_e hA e1 e, funext (f := fun j => zvt A th st v n (zcd st' v' n j)) (g := fun j => zvt A th st v n (zcd st v n j)) (fun j => by rw [c])]
theorem zaM_e {M' : zM} {th : Int → Int} {q : Int} (hA : zVA (M 235)) (hl : M 246 q ≤ 120) (e1 : M' 235 1 = M 235 1) (e : ∀ i, 14 ≤ i → i < 74 → M' 235 i = M 235 i) (h46 : M' 246 q = M 246 q) (h47 : ∀ i, 0 ≤ i → i < 240 → M' 247 (240 * q + i) = M 247 (240 * q + i)) : zaM M' th q = zaM M th q := by
  unfold zaM
  rw [h46, zvt_e hA e1 e (st := fun k => M 247 (240 * q + 2 * k)) (v := fun k => M 247 (240 * q + 2 * k + 1)) (M 246 q).toNat (fun k hk => ⟨h47 _ (by omega) (by omega), by have := h47 (2 * k + 1) (by omega) (by omega); rw [show 240 * q + 2 * (k : Int) + 1 = 240 * q + (2 * k + 1) by omega]; exact this⟩)]
def zSaM : List (Int × Int × Int) := [(235, 14, 74), (246, 0, 12), (247, 0, 2880), (235, 1, 2)]
theorem zaM_c {M' : zM} {th : Int → Int} {q : Int} (h : zsm zSaM M M') (hA : zVA (M 235)) (hq : 0 ≤ q ∧ q < 12) (hQ : zQq M q) : zaM M' th q = zaM M th q :=
  zaM_e hA (by have := hQ.2.1; omega) (h _ _ (zhit_at 3 rfl ⟨by decide, by decide⟩)) (fun i i0 i1 => h _ _ (zhit_at 0 rfl ⟨i0, i1⟩)) (h _ _ (zhit_at 1 rfl ⟨hq.1, hq.2⟩)) (fun i i0 i1 => h _ _ (zhit_at 2 rfl ⟨by omega, by omega⟩))
def zSME : List (Int × Int × Int) := [(235, 14, 74), (237, 0, 64), (238, 0, 36), (235, 1, 2)]
theorem zME_c {M' : zM} (h : zsm zSME M M') (hA : zVA (M 235)) (j : zME M) : zME M' := by
  have n := hA.2.1.1
  have e : ∀ i, 14 ≤ i → i < 74 → M' 235 i = M 235 i := fun i i0 i1 => h _ _ (zhit_at 0 rfl ⟨i0, i1⟩)
  have e1 : M' 235 1 = M 235 1 := h _ _ (zhit_at 3 rfl ⟨by decide, by decide⟩)
  refine ⟨fun x y x0 x1 y0 y1 => ?_, fun x y x0 x1 y0 y1 => ?_⟩
  · rw [e1] at x1 y1 ⊢
    rw [h 237 _ (zhit_at 1 rfl ⟨by omega, by omega⟩), zE_B (Or.inr rfl) n.2 (zk0_E n.2 (fun i i0 i1 => e i (by omega) (by omega))) x y x0 x1 y0 y1]
    exact j.1 x y x0 x1 y0 y1
  · rw [h 238 _ (zhit_at 2 rfl ⟨by omega, by omega⟩), zE_B (Or.inl rfl) (by decide) (zw0_E (fun i i0 i1 => e i (by omega) (by omega))) x y x0 x1 y0 y1]
    exact j.2 x y x0 x1 y0 y1
theorem zaM_b {th : Int → Int} {q : Int} (hA : zVA (M 235)) (hQ : zQq M q) (ht : ∀ t, 0 ≤ t → t < 4 → 0 ≤ th t ∧ th t ≤ 99) : zb6 (zaM M th q) := zvt_b hA ht (zQC_ok hQ.2.2.1) _ (by have := hQ.2.1; omega) _
theorem zCE_of (j2 : zJ2 M) (j4 : zJ4 M) (j10 : zJ10 M) : zCE M (M 235) := ⟨j2.1, fun i i0 i1 => ⟨(j2.2 i i0 i1).1, j4.2 i i0 i1⟩, j4.1, j10⟩
/-! which things stand in the words -/
def zbt (x : Int) (t : Int) : Bool := x.toNat.testBit t.toNat
theorem zbt_c {x t : Int} (hx : 0 ≤ x ∧ x ≤ 2147483647) (ht : 0 ≤ t ∧ t < 32) : zand (zshr x t) 1 = 0 ↔ zbt x t = false := by
  obtain ⟨n, rfl⟩ := Int.eq_ofNat_of_zero_le hx.1
  obtain ⟨k, rfl⟩ := Int.eq_ofNat_of_zero_le ht.1
  unfold zbt
  rw [Int.toNat_natCast, Int.toNat_natCast, zshr_n (by omega) (by omega), zand1_n, Nat.testBit_eq_decide_div_mod_eq, decide_eq_false_iff_not]
  omega
theorem zbt_m {x t : Int} (hx : 0 ≤ x ∧ x ≤ 2147483647) (ht : 0 ≤ t ∧ t < 32) : zbit x t ↔ zbt x t = true := by
  obtain ⟨n, rfl⟩ := Int.eq_ofNat_of_zero_le hx.1
  obtain ⟨k, rfl⟩ := Int.eq_ofNat_of_zero_le ht.1
  unfold zbt
  rw [Int.toNat_natCast, Int.toNat_natCast, zbit_n (by omega) (by omega)]
theorem zbt_or {x y t : Int} (hx : 0 ≤ x ∧ x ≤ 32767) (hy : 0 ≤ y ∧ y ≤ 32767) : (0 ≤ zor x y ∧ zor x y ≤ 32767) ∧ zbt (zor x y) t = (zbt x t || zbt y t) := by
  obtain ⟨n, rfl⟩ := Int.eq_ofNat_of_zero_le hx.1
  obtain ⟨k, rfl⟩ := Int.eq_ofNat_of_zero_le hy.1
  have q := Nat.or_lt_two_pow (n := 15) (x := n) (y := k) (by omega) (by omega)
  unfold zbt
  rw [zor_n (by omega) (by omega), Int.toNat_natCast, Int.toNat_natCast, Int.toNat_natCast, Nat.testBit_or]
  exact ⟨by omega, rfl⟩
theorem zbt_15 {x t : Int} (hx : 0 ≤ x ∧ x ≤ 32767) (ht : 0 ≤ t ∧ t < 4) : (0 ≤ zand x 15 ∧ zand x 15 ≤ 32767) ∧ zbt (zand x 15) t = zbt x t := by
  obtain ⟨n, rfl⟩ := Int.eq_ofNat_of_zero_le hx.1
  have e : zand (n : Int) 15 = ((n &&& 15 : Nat) : Int) := zand_n (b := 15) (by omega)
  have q := Nat.and_le_right (n := n) (m := 15)
  unfold zbt
  rw [e, Int.toNat_natCast, Int.toNat_natCast, Nat.testBit_and]
  refine ⟨by omega, ?_⟩
  have hc : t = 0 ∨ t = 1 ∨ t = 2 ∨ t = 3 := by omega
  have w : Nat.testBit 15 t.toNat = true := by rcases hc with rfl | rfl | rfl | rfl <;> rfl
  rw [w, Bool.and_true]
/-! where two questions part -/
def zpt (f g : (Int → Int) → Int) (b : Int → Bool) : Nat → (Int → Int) → Option (Int → Int)
  | 0, _ => none
  | n + 1, W => if f W = g W then (match zwx b 4 W with | none => none | some W' => zpt f g b n W') else some W
theorem zpt_eq {f : (Int → Int) → Int} {b : Int → Bool} : ∀ (n : Nat) (W : Int → Int), zpt f f b n W = none
  | 0, _ => rfl
  | n + 1, W => by
    show (if f W = f W then (match zwx b 4 W with | none => none | some W' => zpt f f b n W') else some W) = none
    rw [if_pos rfl]
    cases zwx b 4 W with
    | none => rfl
    | some W' => exact zpt_eq n W'
theorem zd9_cw {W : Int → Int} (h : zd9 W) : zd9 (zcw W) := fun t t0 t1 => by rw [zcw_at ⟨t0, t1⟩]; exact h t t0 t1
theorem zcw_e {W V : Int → Int} (h : ∀ t, 0 ≤ t → t < 4 → W t = V t) : zcw W = zcw V := by
  funext t
  unfold zcw
  by_cases c : 0 ≤ t ∧ t < 4
  · rw [if_pos c, if_pos c, h t c.1 c.2]
  · rw [if_neg c, if_neg c]
theorem zwi_cw {W : Int → Int} : zwi (zcw W) = zwi W := by
  unfold zwi
  rw [zcw_at ⟨by decide, by decide⟩, zcw_at ⟨by decide, by decide⟩, zcw_at ⟨by decide, by decide⟩, zcw_at ⟨by decide, by decide⟩]
theorem zwi_9 {W : Int → Int} (h : zd9 W) : 0 ≤ zwi W ∧ zwi W ≤ 9999 := by
  have a0 := h 0 (by omega) (by omega)
  have a1 := h 1 (by omega) (by omega)
  have a2 := h 2 (by omega) (by omega)
  have a3 := h 3 (by omega) (by omega)
  unfold zwi; omega
/-- the step to the next world, on the class's side -/
theorem s_cnext (hG : zP G) {x : Int} (hx : 0 ≤ x ∧ x ≤ 32767) {N : zM} (h9 : zd9 (N 182)) (h1 : ∀ W', zwx (zbt x) 4 (zcw (N 182)) = some (zcw W') → zd9 W' → Q (0, 1) (zrow N 182 W')) (h0 : zwx (zbt x) 4 (zcw (N 182)) = none → ∀ W', Q (0, 0) (zrow N 182 W')) : Y G d mX0_nextWorld 0 [(2, 176), (0, x), (9, 0)] [] N Q := by
  refine bX0_nextWorld_0 hG ?_
  have := s_cn2 (M := N) (Q := Q) (d := d) hG (fun t t0 t1 => zbt_c (x := x) (t := t) (by omega) (by omega)) 4 (N 182) (by omega) h9 h1 h0
  rw [zrow_self] at this
  exact this
theorem s_mnext (hG : zP G) {x : Int} {b : Int → Bool} (hb : ∀ t, 0 ≤ t → t < 4 → zbt x t = b t) (hx : 0 ≤ x ∧ x ≤ 32767) {N : zM} (h9 : zd9 (N 249)) (h1 : ∀ W', zwx b 4 (zcw (N 249)) = some (zcw W') → zd9 W' → Q (0, 1) (zrow N 249 W')) (h0 : zwx b 4 (zcw (N 249)) = none → ∀ W', Q (0, 0) (zrow N 249 W')) : Y G (d + 1) mX12_nextWorld 0 [(2, 234), (0, x), (9, 0)] [] N Q := by
  refine bX12_nextWorld_0 hG ?_
  have := s_mn2 (M := N) (Q := Q) (d := d) hG (b := b) (fun t t0 t1 => by rw [zbt_m (x := x) (t := t) (by omega) (by omega), hb t t0 t1]) 4 (N 249) (by omega) h9 h1 h0
  rw [zrow_self] at this
  exact this
def zscr : List (Int × Int × Int) := [(11, 0, 1000000), (182, 0, 1000000), (179, 0, 1000000), (176, 4, 5), (237, 0, 1000000), (238, 0, 1000000), (249, 0, 1000000), (250, 0, 1000000)]
theorem s_cfp (hG : zP G) {x1 x2 x5 : Int} (hx : 0 ≤ x5 ∧ x5 ≤ 32767) {f g : (Int → Int) → Int} {r : Option (Int → Int)}
    (hf : ∀ N, zfr zscr M N → zd9 (N 182) → ∀ Q' : zV → zM → Prop, (∀ R, Q' (0, f (zcw (N 182))) (zrow N 11 R)) → Y G (d + 4) mX3_answerIn 0 [(2, 19), (0, x1), (2, 2), (2, 182), (9, 0)] [] N Q')
    (hg : ∀ N, zfr zscr M N → zd9 (N 182) → ∀ Q' : zV → zM → Prop, (∀ R, Q' (0, g (zcw (N 182))) (zrow N 11 R)) → Y G (d + 4) mX3_answerIn 0 [(2, 19), (0, x2), (2, 2), (2, 182), (9, 0)] [] N Q')
    (h1 : ∀ V, r = some V → ∀ N, zfr zscr M N → zcw (N 182) = V → Q (0, 1) N) (h0 : r = none → ∀ N, zfr zscr M N → Q (0, 0) N) : ∀ (n : Nat) (i : Int) (N : zM), i + n = 10000 → 0 ≤ i → zfr zscr M N → zd9 (N 182) → zpt f g (zbt x5) n (zcw (N 182)) = r → Y G (d + 5) mX0_findParting 33 [(2, 176), (0, x1), (0, x2), (2, 19), (2, 2), (0, x5), (0, i)] [] N Q
  | 0, i, N, hi, i0, hN, h9, hr => bX0_findParting_33 hG ⟨fun _ => h0 hr.symm N hN, fun c => absurd c (by omega)⟩
  | n + 1, i, N, hi, i0, hN, h9, hr => by
    refine bX0_findParting_33 hG ⟨fun c => absurd c (by omega), fun _ => ?_⟩
    refine hf N hN h9 _ (fun R => bX0_findParting_52 hG ?_)
    have hN1 : zfr zscr M (zrow N 11 R) := zfr_row hN 0 rfl
    have e1 : zrow N 11 R 182 = N 182 := zrow_off (by decide)
    refine hg _ hN1 (by rw [e1]; exact h9) _ (fun R2 => ?_)
    have hN2 : zfr zscr M (zrow (zrow N 11 R) 11 R2) := zfr_row hN1 0 rfl
    have e2 : zrow (zrow N 11 R) 11 R2 182 = N 182 := (zrow_off (by decide)).trans e1
    rw [e1]
    have hr' : (if f (zcw (N 182)) = g (zcw (N 182)) then (match zwx (zbt x5) 4 (zcw (N 182)) with | none => none | some W' => zpt f g (zbt x5) n W') else some (zcw (N 182))) = r := hr
    refine bX0_findParting_63 hG ⟨fun c => ?_, fun c => ?_⟩
    · rw [if_pos c] at hr'
      refine s_cnext hG hx (by rw [e2]; exact h9) (fun W' hw h9' => ?_) (fun hw W' => ?_)
      · rw [e2] at hw
        rw [hw] at hr'
        refine bX0_findParting_74 hG ⟨fun _ => ⟨by omega, ?_⟩, fun z => absurd z (by decide)⟩
        refine s_cfp hG hx hf hg h1 h0 n (i + 1) _ (by omega) (by omega) (zfr_row hN2 1 rfl) ?_ ?_
        · rw [zrow_row]; exact h9'
        · rw [zrow_row]; exact hr'
      · rw [e2] at hw
        rw [hw] at hr'
        exact bX0_findParting_74 hG ⟨fun z => absurd rfl z, fun _ => h0 hr'.symm _ (zfr_row hN2 1 rfl)⟩
    · rw [if_neg c] at hr'
      exact h1 _ hr'.symm _ hN2 (by rw [e2])
theorem s_mfp (hG : zP G) {x1 x2 x3 x4 : Int} {b : Int → Bool} (hb : ∀ t, 0 ≤ t → t < 4 → zbt x4 t = b t) (hx : 0 ≤ x4 ∧ x4 ≤ 32767) (hx3 : 0 ≤ x3 ∧ x3 ≤ 3) {f g : (Int → Int) → Int} {r : Option (Int → Int)}
    (hf : ∀ N, zfr [(249, 0, 1000000), (250, 0, 1000000)] M N → zd9 (N 249) → ∀ Q' : zV → zM → Prop, (∀ R, Q' (1, f (zcw (N 249))) (zrow N 250 R)) → Y G (d + 2) mX12_answerOf 0 [(2, 234), (0, x1), (9, 0), (9, 0), (9, 0), (9, 0), (9, 0), (9, 0), (9, 0), (9, 0)] [] N Q')
    (hg : ∀ N, zfr [(249, 0, 1000000), (250, 0, 1000000)] M N → zd9 (N 249) → ∀ Q' : zV → zM → Prop, (∀ R, Q' (1, g (zcw (N 249))) (zrow N 250 R)) → Y G (d + 2) mX12_answerOf 0 [(2, 234), (0, x2), (9, 0), (9, 0), (9, 0), (9, 0), (9, 0), (9, 0), (9, 0), (9, 0)] [] N Q')
    (h1 : ∀ V, r = some V → ∀ N, zfr [(249, 0, 1000000), (250, 0, 1000000)] M N → Q (0, V x3) N) (h0 : r = none → ∀ N, zfr [(249, 0, 1000000), (250, 0, 1000000)] M N → Q (0, -1) N) : ∀ (n : Nat) (N : zM), 10000 ≤ zwi (N 249) + n → zfr [(249, 0, 1000000), (250, 0, 1000000)] M N → zd9 (N 249) → zpt f g b n (zcw (N 249)) = r → Y G (d + 3) mX12_parted 56 [(2, 234), (0, x1), (0, x2), (0, x3), (0, x4), (0, 1), (9, 0), (9, 0)] [] N Q
  | 0, N, hi, hN, h9, hr => absurd (zwi_9 h9) (by omega)
  | n + 1, N, hi, hN, h9, hr => by
    refine bX12_parted_56 hG ⟨fun c => absurd c (by decide), fun _ => ?_⟩
    refine hf N hN h9 _ (fun R => bX12_parted_66 hG ?_)
    have hN1 : zfr [(249, 0, 1000000), (250, 0, 1000000)] M (zrow N 250 R) := zfr_row hN 1 rfl
    have e1 : zrow N 250 R 249 = N 249 := zrow_off (by decide)
    refine hg _ hN1 (by rw [e1]; exact h9) _ (fun R2 => ?_)
    have hN2 : zfr [(249, 0, 1000000), (250, 0, 1000000)] M (zrow (zrow N 250 R) 250 R2) := zfr_row hN1 1 rfl
    have e2 : zrow (zrow N 250 R) 250 R2 249 = N 249 := (zrow_off (by decide)).trans e1
    rw [e1]
    have hr' : (if f (zcw (N 249)) = g (zcw (N 249)) then (match zwx b 4 (zcw (N 249)) with | none => none | some W' => zpt f g b n W') else some (zcw (N 249))) = r := hr
    refine bX12_parted_73 hG ⟨fun c => ?_, fun c => ?_⟩
    · rw [zlcmp_eq] at c
      rw [if_pos c.symm] at hr'
      refine s_mnext hG hb hx (by rw [e2]; exact h9) (fun W' hw h9' => ?_) (fun hw W' => ?_)
      · rw [e2] at hw
        have lt := zwx_lt (zd9_cw h9) hw
        rw [zwi_cw, zwi_cw] at lt
        rw [hw] at hr'
        refine bX12_parted_92 hG ?_
        refine s_mfp hG hb hx hx3 hf hg h1 h0 n _ ?_ (zfr_row hN2 0 rfl) ?_ ?_
        · rw [zrow_row]; omega
        · rw [zrow_row]; exact h9'
        · rw [zrow_row]; exact hr'
      · rw [e2] at hw
        rw [hw] at hr'
        refine bX12_parted_92 hG (bX12_parted_56 hG ⟨fun _ => h0 hr'.symm _ (zfr_row hN2 0 rfl), fun z => absurd rfl z⟩)
    · rw [zlcmp_eq] at c
      rw [if_neg (fun e => c e.symm)] at hr'
      have q := h1 _ hr'.symm _ hN2
      rw [e2]
      rw [zcw_at ⟨hx3.1, by omega⟩] at q
      exact ⟨by omega, q⟩
end WP
