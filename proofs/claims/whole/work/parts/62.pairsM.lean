section PM
variable {G : zG} {d : Nat} {M : zM} {Q : zV → zM → Prop}

/-- the model works a question out as things now are -/
theorem s_mnow (hG : zP G) (hJ : zJ M) (hW : ∀ t, 0 ≤ t → t < 4 → M 249 t = M 235 (10 + t)) (hE : zME M) {q : Int} (hq : 0 ≤ q ∧ q < M 235 0) (h : ∀ V, Q (1, zaM M (M 3) q) (zrow M 250 V)) : Y G (d + 2) mX12_answerOf 0 [(2, 234), (0, q), (9, 0), (9, 0), (9, 0), (9, 0), (9, 0), (9, 0), (9, 0), (9, 0)] [] M Q := by
  have n12 : 0 ≤ M 235 0 ∧ M 235 0 ≤ 12 := hJ.1.1
  have j1 := hJ.2.2.1
  have ht := zth_J hJ
  exact s_mans hG ⟨hq.1, by omega⟩ ((hJ.2.2.2.2.2.2.2.2.2.2.2.2.2.2.2.2.2.2.2.1) q hq.1 hq.2) hJ.1 hE (th := M 3) (fun t t0 t1 => ⟨by rw [hW t t0 t1, j1 t t0 t1], by rw [j1 t t0 t1]; exact ht t t0 t1⟩) h
theorem s_mworld (hG : zP G) (hJ : zJ M) (h : ∀ N, zfr zscr M N → zJ N → (∀ t, 0 ≤ t → t < 4 → N 249 t = N 235 (10 + t)) → zME N → Q (9, 0) N) : Y G (d + 2) mX12_worldNow 0 [(2, 234), (9, 0)] [] M Q := by
  refine s_worldNow hG hJ.1 (fun W U V hW hE => ?_)
  have hf : zfr zscr M (zrow (zrow (zrow M 249 W) 237 U) 238 V) := zfr_row (zfr_row (zfr_row zfr_rfl 6 rfl) 4 rfl) 5 rfl
  refine h _ hf (J_sc hJ hf).1 (fun t t0 t1 => ?_) hE
  rw [zrow_off (show (249 : Int) ≠ 238 by decide), zrow_off (show (249 : Int) ≠ 237 by decide), zrow_row, zrow_off (show (235 : Int) ≠ 238 by decide), zrow_off (show (235 : Int) ≠ 237 by decide), zrow_off (show (235 : Int) ≠ 249 by decide)]
  exact hW t t0 t1
/-! lies -/
def zly (f g : Int → Int) : Nat → Int
  | 0 => 0
  | k + 1 => if f k = g k then zly f g k else zor (zly f g k) (zshl 1 k)
theorem zly_b {f g : Int → Int} : ∀ k : Nat, k ≤ 12 → 0 ≤ zly f g k ∧ zly f g k ≤ 32767
  | 0, _ => by show (0 : Int) ≤ 0 ∧ (0 : Int) ≤ 32767; decide
  | k + 1, hk => by
    have ih := zly_b (f := f) (g := g) k (by omega)
    show 0 ≤ (if f k = g k then zly f g k else zor (zly f g k) (zshl 1 k)) ∧ (if f k = g k then zly f g k else zor (zly f g k) (zshl 1 k)) ≤ 32767
    by_cases c : f k = g k
    · rw [if_pos c]; exact ih
    · rw [if_neg c]
      have b : 0 ≤ zshl 1 k ∧ zshl 1 k ≤ 32767 := by
        rw [zshl1_n (by omega)]
        have h14 : 2 ^ k ≤ 16384 := Nat.le_trans (Nat.pow_le_pow_right (by decide) (show k ≤ 14 by omega)) (by decide)
        generalize 2 ^ k = y at h14 ⊢
        omega
      exact (zbt_or (t := 0) ih b).1
theorem zor_0 {x : Int} (hx : 0 ≤ x ∧ x ≤ 32767) : zor x 0 = x := by
  obtain ⟨n, rfl⟩ := Int.eq_ofNat_of_zero_le hx.1
  have := zor_n (a := n) (b := 0) (by omega) (by decide)
  rw [Nat.or_zero] at this
  exact this
theorem pr_lies (hG : zP G) (hJ : zJ M) : zPr G d mX11_lies mX12_lies [(2, 1)] [(2, 234), (9, 0), (9, 0)] M := by
  have n12 : 0 ≤ M 235 0 ∧ M 235 0 ≤ 12 := hJ.1.1
  have j15 := hJ.2.2.2.2.2.2.2.2.2.2.2.2.2.2.2.2.1
  have v8 := hJ.1.2.2.2.2.2.2.2.2.1
  obtain ⟨n, hn⟩ := Int.eq_ofNat_of_zero_le v8.1.1
  have nn : n ≤ 12 := by have := v8.1.2; omega
  have tq : ∀ i, 0 ≤ i → i < (n : Int) → 0 ≤ M 235 (132 + 2 * i) ∧ M 235 (132 + 2 * i) < M 235 0 := fun i i0 i1 => (v8.2 i i0 (by omega)).1
  refine bX11_lies_0 hG (s_stockJ (d := d + 189) hG hJ (fun N JN hf e13 hW => bX11_lies_4 hG (bX0_liesIn_0 hG ?_)))
  have sm := zfr_sm (S := [(235, 0, 156), (2, 10, 11), (176, 7, 8), (180, 0, 12), (181, 0, 12), (3, 0, 4), (246, 0, 12), (247, 0, 2880)]) hf (by decide)
  have a235 : ∀ i, 0 ≤ i → i < 156 → N 235 i = M 235 i := fun i i0 i1 => sm _ _ (zhit_at 0 rfl ⟨i0, i1⟩)
  have v10 : N 2 10 = M 2 10 := sm _ _ (zhit_at 1 rfl ⟨by decide, by decide⟩)
  have aM : ∀ q, 0 ≤ q → q < M 235 0 → ∀ th, zaM N th q = zaM M th q := fun q q0 q1 th => zaM_e hJ.1 (by have := ((hJ.2.2.2.2.2.2.2.2.2.2.2.2.2.2.2.2.2.2.2.1) q q0 q1).2.1; omega) (a235 1 (by decide) (by decide)) (fun i i0 i1 => a235 i (by omega) (by omega)) (sm _ _ (zhit_at 6 rfl ⟨q0, by omega⟩)) (fun i i0 i1 => sm _ _ (zhit_at 7 rfl ⟨by omega, by omega⟩))
  have th3 : ∀ q, 0 ≤ q → q < M 235 0 → zaM N (N 3) q = zaM M (M 3) q := fun q q0 q1 => by
    rw [aM q q0 q1]
    exact zaM_t ((hJ.2.2.2.2.2.2.2.2.2.2.2.2.2.2.2.2.2.2.2.1) q q0 q1) (fun t t0 t1 => sm _ _ (zhit_at 5 rfl ⟨t0, t1⟩))
  -- the model
  have mo : Y G (d + 400) mX12_lies 0 [(2, 234), (9, 0), (9, 0)] [] N (fun r2 M2 => r2 = (0, zly (fun i => zaM M (M 3) (M 235 (132 + 2 * i))) (fun i => M 235 (133 + 2 * i)) n) ∧ zJn M M2) := by
    refine bX12_lies_0 hG (s_mworld (d := d + 397) hG JN (fun X hX JX hWX hEX => bX12_lies_4 hG ?_))
    have sx := zfr_sm (S := [(235, 0, 156), (2, 10, 11), (3, 0, 4), (246, 0, 12), (247, 0, 2880)]) hX (by decide)
    have x235 : ∀ i, 0 ≤ i → i < 156 → X 235 i = M 235 i := fun i i0 i1 => (sx _ _ (zhit_at 0 rfl ⟨i0, i1⟩)).trans (a235 i i0 i1)
    have xv : X 2 10 = N 2 10 := sx _ _ (zhit_at 1 rfl ⟨by decide, by decide⟩)
    have xth : ∀ q, 0 ≤ q → q < M 235 0 → zaM X (X 3) q = zaM M (M 3) q := fun q q0 q1 => by
      rw [zaM_e (M := M) hJ.1 (by have := ((hJ.2.2.2.2.2.2.2.2.2.2.2.2.2.2.2.2.2.2.2.1) q q0 q1).2.1; omega) (x235 1 (by decide) (by decide)) (fun i i0 i1 => x235 i (by omega) (by omega)) ((sx _ _ (zhit_at 3 rfl ⟨q0, by omega⟩)).trans (sm _ _ (zhit_at 6 rfl ⟨q0, by omega⟩))) (fun i i0 i1 => (sx _ _ (zhit_at 4 rfl ⟨by omega, by omega⟩)).trans (sm _ _ (zhit_at 7 rfl ⟨by omega, by omega⟩)))]
      exact zaM_t ((hJ.2.2.2.2.2.2.2.2.2.2.2.2.2.2.2.2.2.2.2.1) q q0 q1) (fun t t0 t1 => (sx _ _ (zhit_at 2 rfl ⟨t0, t1⟩)).trans (sm _ _ (zhit_at 5 rfl ⟨t0, t1⟩)))
    have lp : ∀ (r i : Nat) (V : Int → Int), i + r = n → Y G (d + 400) mX12_lies 8 [(2, 234), (0, zly (fun i => zaM M (M 3) (M 235 (132 + 2 * i))) (fun i => M 235 (133 + 2 * i)) i), (0, (i : Int))] [] (zrow X 250 V) (fun r2 M2 => r2 = (0, zly (fun i => zaM M (M 3) (M 235 (132 + 2 * i))) (fun i => M 235 (133 + 2 * i)) n) ∧ zJn M M2) := fun r => by
      induction r with
      | zero =>
        intro i V hi
        have : i = n := by omega
        subst this
        have fv : zfr zscr X (zrow X 250 V) := zfr_row zfr_rfl 7 rfl
        refine bX12_lies_8 hG ⟨fun _ => ⟨rfl, zJn_tr v10 (J_sc JX fv).1 ?_⟩, fun c => absurd c ?_⟩
        · rw [zrow_off (by decide), xv]
        · rw [zrow_off (show (235 : Int) ≠ 250 by decide), x235 8 (by decide) (by decide), hn]; omega
      | succ r ih =>
        intro i V hi
        have fv : zfr zscr X (zrow X 250 V) := zfr_row zfr_rfl 7 rfl
        have e1 : zrow X 250 V 235 (132 + 2 * (i : Int)) = M 235 (132 + 2 * i) := by rw [zrow_off (by decide), x235 _ (by omega) (by omega)]
        have e2 : zrow X 250 V 235 (132 + 2 * (i : Int) + 1) = M 235 (133 + 2 * i) := by rw [zrow_off (by decide), x235 _ (by omega) (by omega), show 132 + 2 * (i : Int) + 1 = 133 + 2 * i by omega]
        have zb := zly_b (f := fun i => zaM M (M 3) (M 235 (132 + 2 * i))) (g := fun i => M 235 (133 + 2 * i)) i (by omega)
        have st : zly (fun i => zaM M (M 3) (M 235 (132 + 2 * i))) (fun i => M 235 (133 + 2 * i)) (i + 1) = if zaM M (M 3) (M 235 (132 + 2 * (i : Int))) = M 235 (133 + 2 * (i : Int)) then zly (fun i => zaM M (M 3) (M 235 (132 + 2 * i))) (fun i => M 235 (133 + 2 * i)) i else zor (zly (fun i => zaM M (M 3) (M 235 (132 + 2 * i))) (fun i => M 235 (133 + 2 * i)) i) (zshl 1 i) := rfl
        refine bX12_lies_8 hG ?_
        rw [e1, show zrow X 250 V 235 8 = (n : Int) by rw [zrow_off (by decide), x235 8 (by decide) (by decide), hn]]
        refine ⟨fun c => absurd c (by omega), fun _ => ⟨by omega, by omega, by omega, ?_⟩⟩
        have q := tq i (by omega) (by omega)
        refine s_mnow (d := d + 397) hG (J_sc JX fv).1 (fun t t0 t1 => by rw [zrow_off (show (249 : Int) ≠ 250 by decide), zrow_off (show (235 : Int) ≠ 250 by decide)]; exact hWX t t0 t1) (zME_row (by decide) (by decide) (by decide) hEX) (by rw [zrow_off (show (235 : Int) ≠ 250 by decide), x235 0 (by decide) (by decide)]; exact q) (fun V2 => ?_)
        rw [zrow_two, zaM_row (by decide) (by decide) (by decide), zrow_off (show (3 : Int) ≠ 250 by decide), xth _ q.1 q.2]
        have e2' : zrow X 250 V2 235 (132 + 2 * (i : Int) + 1) = M 235 (133 + 2 * i) := by rw [zrow_off (by decide), x235 _ (by omega) (by omega), show 132 + 2 * (i : Int) + 1 = 133 + 2 * i by omega]
        refine bX12_lies_36 hG ?_
        rw [e2']
        have nx := ih (i + 1) V2 (by omega)
        rw [st] at nx
        refine ⟨by omega, by omega, by omega, by omega, fun c => ⟨by omega, ?_⟩, fun c => ⟨by omega, ?_⟩⟩
        · rw [zlcmp_eq] at c
          rw [if_pos c] at nx
          rw [zor_0 zb]; exact nx
        · rw [zlcmp_eq] at c
          rw [if_neg c] at nx
          exact nx
    have := lp n 0 (X 250) (by omega)
    rw [zrow_self] at this
    exact this
  -- the class
  have lc : ∀ (r i : Nat), i + r = n → Y G (d + 399) mX0_liesIn 4 [(2, 176), (2, 19), (0, zly (fun i => zaM M (M 3) (M 235 (132 + 2 * i))) (fun i => M 235 (133 + 2 * i)) i), (0, (i : Int))] [] N (fun r M' => Y G (d + 399 + 1) mX11_lies 15 [(2, 1)] (zpush r []) M' (fun r M1 => Y G (d + 400) mX12_lies 0 [(2, 234), (9, 0), (9, 0)] [] M1 (fun r2 M2 => r2 = r ∧ zJn M M2))) := fun r => by
    induction r with
    | zero =>
      intro i hi
      have : i = n := by omega
      subst this
      refine bX0_liesIn_4 hG ⟨fun _ => bX11_lies_15 hG mo, fun c => absurd c ?_⟩
      rw [sm 176 7 (zhit_at 2 rfl ⟨by decide, by decide⟩), j15.1, hn]; omega
    | succ r ih =>
      intro i hi
      have jt := j15.2 i (by omega) (by omega)
      have e180 : N 180 i = M 235 (132 + 2 * i) := (sm _ _ (zhit_at 3 rfl ⟨by omega, by omega⟩)).trans jt.1
      have e181 : N 181 i = M 235 (133 + 2 * i) := (sm _ _ (zhit_at 4 rfl ⟨by omega, by omega⟩)).trans jt.2
      have q := tq i (by omega) (by omega)
      have st : zly (fun i => zaM M (M 3) (M 235 (132 + 2 * i))) (fun i => M 235 (133 + 2 * i)) (i + 1) = if zaM M (M 3) (M 235 (132 + 2 * (i : Int))) = M 235 (133 + 2 * (i : Int)) then zly (fun i => zaM M (M 3) (M 235 (132 + 2 * i))) (fun i => M 235 (133 + 2 * i)) i else zor (zly (fun i => zaM M (M 3) (M 235 (132 + 2 * i))) (fun i => M 235 (133 + 2 * i)) i) (zshl 1 i) := rfl
      have nx := ih (i + 1) (by omega)
      rw [st] at nx
      refine bX0_liesIn_4 hG ?_
      rw [sm 176 7 (zhit_at 2 rfl ⟨by decide, by decide⟩), j15.1, hn, e180, e181, hW _ q.1 q.2]
      refine ⟨fun c => absurd c (by omega), fun _ => ⟨by omega, by omega, by omega, fun c => ⟨by omega, ?_⟩, fun c => ⟨by omega, ?_⟩⟩⟩
      · rw [if_pos c] at nx; exact nx
      · rw [if_neg c] at nx; exact nx
  exact lc n 0 (by omega)
/-! clash -/
def zc2 (b : Int → Int → Bool) (k : Int) : Nat → Int → Option Int
  | 0, _ => none
  | n + 1, e => if b k e then some (12 * e + k) else zc2 b k n (e + 1)
def zc1 (b : Int → Int → Bool) : Nat → Int → Int
  | 0, _ => -1
  | n + 1, k => match zc2 b k k.toNat 0 with | some r => r | none => zc1 b n (k + 1)
theorem pr_clash (hG : zP G) (hJ : zJ M) : zPr G d mX11_clash mX12_clash [(2, 1)] [(2, 234), (9, 0), (9, 0)] M := by
  have n12 : 0 ≤ M 235 0 ∧ M 235 0 ≤ 12 := hJ.1.1
  have j15 := hJ.2.2.2.2.2.2.2.2.2.2.2.2.2.2.2.2.1
  have v8 := hJ.1.2.2.2.2.2.2.2.2.1
  obtain ⟨n, hn⟩ := Int.eq_ofNat_of_zero_le v8.1.1
  have nn : n ≤ 12 := by have := v8.1.2; omega
  have tq : ∀ i, 0 ≤ i → i < (n : Int) → 0 ≤ M 235 (132 + 2 * i) ∧ M 235 (132 + 2 * i) < M 235 0 := fun i i0 i1 => (v8.2 i i0 (by omega)).1
  refine bX11_clash_0 hG (s_stockJ (d := d + 189) hG hJ (fun N JN hf e13 hW => bX11_clash_4 hG (bX0_firstClash_0 hG ?_)))
  have sm := zfr_sm (S := [(235, 0, 156), (2, 10, 11), (176, 7, 8), (180, 0, 12), (181, 0, 12), (246, 0, 12), (247, 0, 2880)]) hf (by decide)
  have a235 : ∀ i, 0 ≤ i → i < 156 → N 235 i = M 235 i := fun i i0 i1 => sm _ _ (zhit_at 0 rfl ⟨i0, i1⟩)
  have v10 : N 2 10 = M 2 10 := sm _ _ (zhit_at 1 rfl ⟨by decide, by decide⟩)
  have jS := JN.2.2.2.2.2.2.2.2.2.2.2.2.2.2.2.2.2.2.2.2.2.2.1
  have fq : ∀ (X : zM), zfr zaF N X → ∀ q, 0 ≤ q → q < M 235 0 → zqf X (M 235 4) q = zqf N (M 235 4) q := fun X hX q q0 q1 => zqf_c (zfr_sm hX (by decide)) ⟨q0, by omega⟩ (JN.2.2.2.2.2.2.2.2.2.2.2.2.2.2.2.2.2.2.2.1 q q0 (by rw [a235 0 (by decide) (by decide)]; exact q1))
  -- do two of those told clash?
  generalize hb : (fun k e : Int => decide (zqf N (M 235 4) (M 235 (132 + 2 * e)) = zqf N (M 235 4) (M 235 (132 + 2 * k)) ∧ M 235 (133 + 2 * e) ≠ M 235 (133 + 2 * k))) = b
  have hbk : ∀ k e, b k e = decide (zqf N (M 235 4) (M 235 (132 + 2 * e)) = zqf N (M 235 4) (M 235 (132 + 2 * k)) ∧ M 235 (133 + 2 * e) ≠ M 235 (133 + 2 * k)) := fun k e => by rw [← hb]
  have mo : ∀ (r k : Nat) (X : zM) (R : Int), k + r = n → zfr zaF N X → zJ X → zc1 b r k = R → Y G (d + 400) mX12_clash 2 [(2, 234), (0, (k : Int)), (9, 0)] [] X (fun r2 M2 => r2 = (0, R) ∧ zJn M M2) := fun r => by
    induction r with
    | zero =>
      intro k X R hk hX JX hR
      have hR' : -1 = R := hR
      subst hR'
      have x8 : X 235 8 = n := by rw [hX 235 8 (by unfold zhw zhit; decide), a235 8 (by decide) (by decide), hn]
      refine bX12_clash_2 hG ⟨fun _ => ⟨rfl, zJn_tr v10 JX (hX 2 10 (by unfold zhw zhit; decide))⟩, fun c => absurd c (by rw [x8]; omega)⟩
    | succ r ih =>
      intro k X R hk hX JX hR
      have hR' : (match zc2 b k k 0 with | some r => r | none => zc1 b r ((k : Int) + 1)) = R := hR
      have x8 : X 235 8 = n := by rw [hX 235 8 (by unfold zhw zhit; decide), a235 8 (by decide) (by decide), hn]
      refine bX12_clash_2 hG ⟨fun c => absurd c (by rw [x8]; omega), fun _ => ?_⟩
      have inner : ∀ (s : Nat) (e : Int) (X : zM), 0 ≤ e → e + s = k → zfr zaF N X → zJ X → (match zc2 b k s e with | some r => r | none => zc1 b r ((k : Int) + 1)) = R → Y G (d + 400) mX12_clash 15 [(2, 234), (0, (k : Int)), (0, e)] [] X (fun r2 M2 => r2 = (0, R) ∧ zJn M M2) := fun s => by
        induction s with
        | zero =>
          intro e X e0 he hX JX hR
          refine bX12_clash_15 hG ⟨fun _ => ⟨by omega, ih (k + 1) X R (by omega) hX JX hR⟩, fun c => absurd c (by omega)⟩
        | succ s ihs =>
          intro e X e0 he hX JX hR
          have x235 : ∀ i, 0 ≤ i → i < 156 → X 235 i = M 235 i := fun i i0 i1 => by rw [hX 235 i (by unfold zhw zhit; simp; omega), a235 i i0 i1]
          have hR' : (match (if b k e then some (12 * e + k) else zc2 b k s (e + 1)) with | some r => r | none => zc1 b r ((k : Int) + 1)) = R := hR
          have qe := tq e e0 (by omega)
          have qk := tq k (by omega) (by omega)
          refine bX12_clash_15 hG ?_
          rw [x235 _ (by omega) (by omega), x235 _ (by omega) (by omega), x235 (132 + 2 * e) (by omega) (by omega), x235 (132 + 2 * (k : Int)) (by omega) (by omega), x235 4 (by decide) (by decide), show 132 + 2 * e + 1 = 133 + 2 * e by omega, show 132 + 2 * (k : Int) + 1 = 133 + 2 * k by omega]
          refine ⟨fun c => absurd c (by omega), fun _ => ⟨by omega, by omega, by omega, by omega, by omega, by omega, by omega, by omega, fun c => ⟨by omega, by omega, by omega, by omega, by omega, by omega, ?_⟩, fun c => ⟨by omega, ?_⟩⟩⟩
          · refine s_malike (d := d + 394) hG JX (by rw [x235 0 (by decide) (by decide)]; exact qe) (by rw [x235 0 (by decide) (by decide)]; exact qk) hJ.1.2.2.2.2.1 (fun X2 hX2 J2 => ?_)
            rw [fq X hX _ qe.1 qe.2, fq X hX _ qk.1 qk.2]
            have hX3 := zfr_trans hX hX2
            by_cases al : zqf N (M 235 4) (M 235 (132 + 2 * e)) = zqf N (M 235 4) (M 235 (132 + 2 * (k : Int)))
            · rw [if_pos al]
              rw [hbk, decide_eq_true (And.intro al c), if_pos rfl] at hR'
              have hR2 : 12 * e + (k : Int) = R := hR'
              refine bX12_clash_88 hG ⟨fun z => absurd z (by decide), fun _ => ⟨by omega, by omega, by rw [hR2], zJn_tr v10 J2 (hX3 2 10 (by unfold zhw zhit; decide))⟩⟩
            · rw [if_neg al]
              rw [hbk, decide_eq_false (fun z => al z.1), if_neg (by decide)] at hR'
              exact bX12_clash_88 hG ⟨fun _ => ⟨by omega, ihs (e + 1) X2 (by omega) (by omega) hX3 J2 hR'⟩, fun z => absurd rfl z⟩
          · rw [hbk, decide_eq_false (fun z => z.2 c), if_neg (by decide)] at hR'
            exact ihs (e + 1) X (by omega) (by omega) hX JX hR'
      exact inner k 0 X (by decide) (by omega) hX JX hR'
  have fin : ∀ R, zc1 b n 0 = R → Y G (d + 399 + 1) mX11_clash 15 [(2, 1)] [(0, R)] N (fun r M1 => Y G (d + 400) mX12_clash 0 [(2, 234), (9, 0), (9, 0)] [] M1 (fun r2 M2 => r2 = r ∧ zJn M M2)) := fun R hR => bX11_clash_15 hG (bX12_clash_0 hG (mo n 0 N R (by omega) zfr_rfl JN hR))
  have lc : ∀ (r k : Nat), k + r = n → zc1 b r k = zc1 b n 0 → Y G (d + 398 + 1) mX0_firstClash 2 [(2, 176), (2, 19), (0, (k : Int)), (9, 0), (9, 0)] [] N (fun r M' => Y G (d + 399 + 1) mX11_clash 15 [(2, 1)] (zpush r []) M' (fun r M1 => Y G (d + 400) mX12_clash 0 [(2, 234), (9, 0), (9, 0)] [] M1 (fun r2 M2 => r2 = r ∧ zJn M M2))) := fun r => by
    have n7 : N 176 7 = n := by rw [sm 176 7 (zhit_at 2 rfl ⟨by decide, by decide⟩), j15.1, hn]
    induction r with
    | zero =>
      intro k hk hR
      exact bX0_firstClash_2 hG ⟨fun _ => fin (-1) hR.symm, fun c => absurd c (by rw [n7]; omega)⟩
    | succ r ih =>
      intro k hk hR
      have hR' : (match zc2 b k k 0 with | some r => r | none => zc1 b r ((k : Int) + 1)) = zc1 b n 0 := hR
      refine bX0_firstClash_2 hG ⟨fun c => absurd c (by rw [n7]; omega), fun _ => ?_⟩
      have inner : ∀ (s : Nat) (e : Int), 0 ≤ e → e + s = k → (match zc2 b k s e with | some r => r | none => zc1 b r ((k : Int) + 1)) = zc1 b n 0 → Y G (d + 398 + 1) mX0_firstClash 12 [(2, 176), (2, 19), (0, (k : Int)), (0, e), (9, 0)] [] N (fun r M' => Y G (d + 399 + 1) mX11_clash 15 [(2, 1)] (zpush r []) M' (fun r M1 => Y G (d + 400) mX12_clash 0 [(2, 234), (9, 0), (9, 0)] [] M1 (fun r2 M2 => r2 = r ∧ zJn M M2))) := fun s => by
        induction s with
        | zero =>
          intro e e0 he hR
          exact bX0_firstClash_12 hG ⟨fun _ => ⟨by omega, ih (k + 1) (by omega) hR⟩, fun c => absurd c (by omega)⟩
        | succ s ihs =>
          intro e e0 he hR
          have hR' : (match (if b k e then some (12 * e + k) else zc2 b k s (e + 1)) with | some r => r | none => zc1 b r ((k : Int) + 1)) = zc1 b n 0 := hR
          have qe := tq e e0 (by omega)
          have qk := tq k (by omega) (by omega)
          have te := j15.2 e e0 (by omega)
          have tk := j15.2 k (by omega) (by omega)
          have g1 : N 180 e = M 235 (132 + 2 * e) := (sm _ _ (zhit_at 3 rfl ⟨e0, by omega⟩)).trans te.1
          have g2 : N 180 k = M 235 (132 + 2 * k) := (sm _ _ (zhit_at 3 rfl ⟨by omega, by omega⟩)).trans tk.1
          have g3 : N 181 e = M 235 (133 + 2 * e) := (sm _ _ (zhit_at 4 rfl ⟨e0, by omega⟩)).trans te.2
          have g4 : N 181 k = M 235 (133 + 2 * k) := (sm _ _ (zhit_at 4 rfl ⟨by omega, by omega⟩)).trans tk.2
          have al := zlw_al (jS.2 _ qe.1 (by rw [e13]; exact qe.2)).2 (jS.2 _ qk.1 (by rw [e13]; exact qk.2)).2 qe.1 qk.1
          rw [a235 4 (by decide) (by decide)] at al
          refine bX0_firstClash_12 hG ?_
          rw [g1, g2]
          refine ⟨fun c => absurd c (by omega), fun _ => ⟨by omega, by omega, ?_⟩⟩
          refine bX3_areAlike_0 hG ⟨by omega, by omega, fun c => bX0_firstClash_33 hG ⟨fun _ => ⟨by omega, ?_⟩, fun z => absurd rfl z⟩, fun c => bX0_firstClash_33 hG ⟨fun z => absurd z (by decide), fun _ => ?_⟩⟩
          · rw [hbk, decide_eq_false (fun z => c (al.mpr z.1)), if_neg (by decide)] at hR'
            exact ihs (e + 1) (by omega) (by omega) hR'
          · rw [g3, g4]
            refine ⟨by omega, by omega, fun c2 => ⟨by omega, ?_⟩, fun c2 => ⟨by omega, by omega, ?_⟩⟩
            · rw [hbk, decide_eq_false (fun z => z.2 c2), if_neg (by decide)] at hR'
              exact ihs (e + 1) (by omega) (by omega) hR'
            · rw [hbk, decide_eq_true (And.intro (al.mp c) c2), if_pos rfl] at hR'
              have hR2 : 12 * e + (k : Int) = zc1 b n 0 := hR'
              rw [hR2]
              exact fin _ rfl
      exact inner k 0 (by decide) (by omega) hR'
  exact lc n 0 (by omega) rfl

end PM
