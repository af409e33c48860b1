section PM1
variable {G : zG} {d : Nat} {M : zM} {Q : zV → zM → Prop}
/-! the model's side alone: the class has gone on -/
abbrev zth (M : zM) : Int → Int := fun t => M 235 (10 + t)
noncomputable def zwhm (P : zM) (p q : Int) : Int := if zha P p = true then 1 else if zmlac P p q ≠ 0 then 2 else if zaM P (zth P) q ≠ P 235 3 then 3 else if zbar P q = -1 then 0 else 4
def zLm (M : zM) : Prop := zVA (M 235) ∧ True ∧ zJ16 M
theorem lth (hK : zLm M) : ∀ t, 0 ≤ t → t < 4 → 0 ≤ M 235 (10 + t) ∧ M 235 (10 + t) ≤ 99 := hK.1.2.2.2.2.2.2.2.2.2.1
theorem L_sc (hK : zLm M) {N : zM} (hf : zfr zscr M N) : zLm N := ⟨zsA_c (zfr_sm hf (by decide)) hK.1, True.intro, zJ16_c (zfr_sm hf (by decide)) hK.1.1.2 hK.2.2⟩
theorem L_scm (hK : zLm M) {N : zM} (hf : zfr zaF M N) : zLm N := ⟨zsA_c (zfr_sm hf (by decide)) hK.1, True.intro, zJ16_c (zfr_sm hf (by decide)) hK.1.1.2 hK.2.2⟩
theorem l_malike (hG : zP G) (hK : zLm M) {x y eq : Int} (hx : 0 ≤ x ∧ x < M 235 0) (hy : 0 ≤ y ∧ y < M 235 0) (he : 0 ≤ eq ∧ eq ≤ 255) (h : ∀ N, zfr zaF M N → zLm N → Q (0, if zqf M eq x = zqf M eq y then 1 else 0) N) : Y G (d + 5) mX12_isAlike 0 [(2, 234), (0, x), (0, y), (0, eq), (9, 0), (9, 0)] [] M Q := by
  have n12 : 0 ≤ M 235 0 ∧ M 235 0 ≤ 12 := hK.1.1
  refine s_misAlike hG ⟨hx.1, by omega⟩ ⟨hy.1, by omega⟩ ((hK.2.2) x hx.1 hx.2) ((hK.2.2) y hy.1 hy.2) (fun N hN => ?_) he (fun e N hN => ?_) (fun e N hN => ?_)
  · have JN := (L_scm hK hN)
    exact JN.2.2 y hy.1 (by rw [hN 235 0 (by unfold zhw zhit; decide)]; exact hy.2)
  · have := h N hN (L_scm hK hN)
    rw [if_pos e] at this; exact this
  · have := h N hN (L_scm hK hN)
    rw [if_neg e] at this; exact this
theorem l_mnow (hG : zP G) (hK : zLm M) (hW : ∀ t, 0 ≤ t → t < 4 → M 249 t = M 235 (10 + t)) (hE : zME M) {q : Int} (hq : 0 ≤ q ∧ q < M 235 0) (h : ∀ V, Q (1, zaM M (zth M) q) (zrow M 250 V)) : Y G (d + 2) mX12_answerOf 0 [(2, 234), (0, q), (9, 0), (9, 0), (9, 0), (9, 0), (9, 0), (9, 0), (9, 0), (9, 0)] [] M Q := by
  have n12 : 0 ≤ M 235 0 ∧ M 235 0 ≤ 12 := hK.1.1
  have ht := lth hK
  exact s_mans hG ⟨hq.1, by omega⟩ ((hK.2.2) q hq.1 hq.2) hK.1 hE (th := zth M) (fun t t0 t1 => ⟨hW t t0 t1, ht t t0 t1⟩) h
theorem l_mworld (hG : zP G) (hK : zLm M) (h : ∀ N, zfr zscr M N → zLm N → (∀ t, 0 ≤ t → t < 4 → N 249 t = N 235 (10 + t)) → zME N → Q (9, 0) N) : Y G (d + 2) mX12_worldNow 0 [(2, 234), (9, 0)] [] M Q := by
  refine s_worldNow hG hK.1 (fun W U V hW hE => ?_)
  have hf : zfr zscr M (zrow (zrow (zrow M 249 W) 237 U) 238 V) := zfr_row (zfr_row (zfr_row zfr_rfl 6 rfl) 4 rfl) 5 rfl
  refine h _ hf (L_sc hK hf) (fun t t0 t1 => ?_) hE
  rw [zrow_off (show (249 : Int) ≠ 238 by decide), zrow_off (show (249 : Int) ≠ 237 by decide), zrow_row, zrow_off (show (235 : Int) ≠ 238 by decide), zrow_off (show (235 : Int) ≠ 237 by decide), zrow_off (show (235 : Int) ≠ 249 by decide)]
  exact hW t t0 t1
theorem l_mbarring (hG : zP G) (hK : zLm M) {x : Int} (hx : 0 ≤ x ∧ x < M 235 0) (h : ∀ N, zfr zaF M N → zLm N → Q (0, zbar M x) N) : Y G (d + 6) mX12_barring 0 [(2, 234), (0, x), (9, 0), (9, 0), (9, 0)] [] M Q := by
  obtain ⟨n5, sq⟩ := zV5_s hK.1
  obtain ⟨n, hn⟩ := Int.eq_ofNat_of_zero_le n5.1
  have n12 : M 235 0 ≤ 12 := hK.1.1.2
  have fq : ∀ (X : zM), zfr zaF M X → ∀ q, 0 ≤ q → q < M 235 0 → zqf X (M 235 4) q = zqf M (M 235 4) q := fun X hX q q0 q1 => zqf_c (zfr_sm hX (by decide)) ⟨q0, by omega⟩ ((hK.2.2) q q0 q1)
  have lp : ∀ (r i : Nat) (X : zM), i + r = n → zfr zaF M X → zLm X → Y G (d + 6) mX12_barring 4 [(2, 234), (0, x), (0, zbr (zqf M (M 235 4)) (fun i => M 235 (105 + 2 * i)) x i), (0, (i : Int)), (9, 0)] [] X Q := fun r => by
    induction r with
    | zero =>
      intro i X hi hX JX
      have : i = n := by omega
      subst this
      have x5 : X 235 5 = i := by rw [hX 235 5 (by unfold zhw zhit; decide), hn]
      refine bX12_barring_4 hG ⟨fun _ => ?_, fun c => absurd c (by omega)⟩
      have := h X hX JX
      unfold zbar at this
      rw [hn] at this
      exact this
    | succ r ih =>
      intro i X hi hX JX
      have q := sq i (by omega) (by omega)
      have x235 : ∀ i, 0 ≤ i → i < 156 → X 235 i = M 235 i := fun i i0 i1 => hX 235 i (by unfold zhw zhit; simp; omega)
      have b := zbr_b (f := zqf M (M 235 4)) (s := fun i => M 235 (105 + 2 * i)) (x := x) i (fun j j0 j1 => by have := sq j j0 (by omega); exact ⟨this.1, by omega⟩)
      have st : zbr (zqf M (M 235 4)) (fun i => M 235 (105 + 2 * i)) x (i + 1) = if (zbr (zqf M (M 235 4)) (fun i => M 235 (105 + 2 * i)) x i = -1 ∨ M 235 (105 + 2 * (i : Int)) < zbr (zqf M (M 235 4)) (fun i => M 235 (105 + 2 * i)) x i) ∧ zqf M (M 235 4) (M 235 (105 + 2 * (i : Int))) = zqf M (M 235 4) x then M 235 (105 + 2 * (i : Int)) else zbr (zqf M (M 235 4)) (fun i => M 235 (105 + 2 * i)) x i := rfl
      have nx := fun X hX JX => ih (i + 1) X (by omega) hX JX
      rw [st] at nx
      generalize zbr (zqf M (M 235 4)) (fun i => M 235 (105 + 2 * i)) x i = z at *
      have look : (z = -1 ∨ M 235 (105 + 2 * (i : Int)) < z) → Y G (d + 5) mX12_isAlike 0 [(2, 234), (0, M 235 (105 + 2 * (i : Int))), (0, x), (0, M 235 4), (9, 0), (9, 0)] [] X (fun r M' => Y G (d + 5 + 1) mX12_barring 52 [(2, 234), (0, x), (0, z), (0, (i : Int)), (0, M 235 (105 + 2 * (i : Int)))] (zpush r []) M' Q) := fun hc => by
        refine l_malike hG JX (by rw [x235 0 (by decide) (by decide)]; exact ⟨q.1, q.2.1⟩) (by rw [x235 0 (by decide) (by decide)]; exact hx) hK.1.2.2.2.2.1 (fun X2 hX2 J2 => ?_)
        rw [fq X hX _ q.1 q.2.1, fq X hX _ hx.1 hx.2]
        by_cases al : zqf M (M 235 4) (M 235 (105 + 2 * (i : Int))) = zqf M (M 235 4) x
        · rw [if_pos al]
          rw [if_pos ⟨hc, al⟩] at nx
          exact bX12_barring_52 hG ⟨fun z => absurd z (by decide), fun _ => ⟨by omega, nx X2 (zfr_trans hX hX2) J2⟩⟩
        · rw [if_neg al]
          rw [if_neg (fun w => al w.2)] at nx
          exact bX12_barring_52 hG ⟨fun _ => ⟨by omega, nx X2 (zfr_trans hX hX2) J2⟩, fun z => absurd rfl z⟩
      refine bX12_barring_4 hG ?_
      rw [show 104 + 2 * (i : Int) + 1 = 105 + 2 * i by omega, x235 (105 + 2 * (i : Int)) (by omega) (by omega), x235 4 (by decide) (by decide), x235 5 (by decide) (by decide), hn]
      refine ⟨fun c => absurd c (by omega), fun _ => ⟨by omega, by omega, by omega, by omega, fun c => look (Or.inl (by omega)), fun c => ⟨fun c2 => ⟨by omega, ?_⟩, fun c2 => look (Or.inr c2)⟩⟩⟩
      rw [if_neg (fun w => by rcases w.1 with y | y <;> omega)] at nx
      exact nx X hX JX
  exact bX12_barring_0 hG (lp n 0 M (by omega) zfr_rfl hK)
theorem lbar_e {N : zM} (hK : zLm M) (h : zsm [(235, 0, 156), (246, 0, 12), (247, 0, 2880)] M N) {x : Int} (hx : 0 ≤ x ∧ x < M 235 0) : zbar N x = zbar M x := by
  obtain ⟨n5, sq⟩ := zV5_s hK.1
  have n12 : M 235 0 ≤ 12 := hK.1.1.2
  have e : ∀ i, 0 ≤ i → i < 156 → N 235 i = M 235 i := fun i i0 i1 => h _ _ (zhit_at 0 rfl ⟨i0, i1⟩)
  have fq : ∀ q, 0 ≤ q → q < M 235 0 → zqf N (M 235 4) q = zqf M (M 235 4) q := fun q q0 q1 => zqf_e (by have := ((hK.2.2) q q0 q1).2.1; omega) (h _ _ (zhit_at 1 rfl ⟨q0, by omega⟩)) (fun i i0 i1 => h _ _ (zhit_at 2 rfl ⟨by omega, by omega⟩))
  have gen : ∀ k : Nat, (k : Int) ≤ M 235 5 → zbr (zqf N (M 235 4)) (fun i => N 235 (105 + 2 * i)) x k = zbr (zqf M (M 235 4)) (fun i => M 235 (105 + 2 * i)) x k := fun k => by
    induction k with
    | zero => exact fun _ => rfl
    | succ k ih =>
      intro hk
      have ih := ih (by omega)
      have q := sq k (by omega) (by omega)
      show (if (zbr (zqf N (M 235 4)) (fun i => N 235 (105 + 2 * i)) x k = -1 ∨ N 235 (105 + 2 * (k : Int)) < zbr (zqf N (M 235 4)) (fun i => N 235 (105 + 2 * i)) x k) ∧ zqf N (M 235 4) (N 235 (105 + 2 * (k : Int))) = zqf N (M 235 4) x then N 235 (105 + 2 * (k : Int)) else zbr (zqf N (M 235 4)) (fun i => N 235 (105 + 2 * i)) x k) = (if (zbr (zqf M (M 235 4)) (fun i => M 235 (105 + 2 * i)) x k = -1 ∨ M 235 (105 + 2 * (k : Int)) < zbr (zqf M (M 235 4)) (fun i => M 235 (105 + 2 * i)) x k) ∧ zqf M (M 235 4) (M 235 (105 + 2 * (k : Int))) = zqf M (M 235 4) x then M 235 (105 + 2 * (k : Int)) else zbr (zqf M (M 235 4)) (fun i => M 235 (105 + 2 * i)) x k)
      rw [ih, e _ (by omega) (by omega), fq _ q.1 q.2.1, fq x hx.1 hx.2]
  unfold zbar
  rw [e 4 (by decide) (by decide), e 5 (by decide) (by decide)]
  exact gen _ (by omega)
theorem l_mwhy (hG : zP G) (hK : zLm M) {p q : Int} (hp : 0 ≤ p ∧ p < M 235 2) (hq : 0 ≤ q ∧ q < M 235 0) (h : ∀ N, zfr zwyF M N → zLm N → Q (0, zwhm M p q) N) : Y G (d + 8) mX12_why 0 [(2, 234), (0, p), (0, q)] [] M Q := by
  have n12 : 0 ≤ M 235 0 ∧ M 235 0 ≤ 12 := hK.1.1
  have n2 := hK.1.2.2.1.1
  obtain ⟨n5, sq⟩ := zV5_s hK.1
  have h' : ∀ (r : Int), r = zwhm M p q → ∀ N, zfr zwyF M N → zLm N → Q (0, r) N := fun r hr N a b => by rw [hr]; exact h N a b
  refine bX12_why_0 hG ⟨by omega, fun _ => ⟨by omega, fun _ => s_mhasAsked hG n5 (bX12_why_23 hG ?_), fun z => absurd hq z⟩, fun z => absurd hp z⟩
  unfold zwhm at h'
  by_cases c1 : zha M p = true
  · rw [if_pos c1] at h' ⊢
    exact ⟨fun z => absurd z (by decide), fun _ => h' 1 rfl M zfr_rfl hK⟩
  · rw [if_neg c1] at h' ⊢
    refine ⟨fun _ => bX12_can_0 hG (s_mlacks hG (by omega) (fun _ => bX12_can_6 hG ⟨fun c2 => bX12_why_34 hG ⟨fun z => absurd rfl z, fun _ => ?_⟩, fun c2 => bX12_why_34 hG ⟨fun _ => ?_, fun z => absurd z (by decide)⟩⟩) (fun z => absurd ⟨hp, hq⟩ z)), fun z => absurd rfl z⟩
    · rw [if_pos c2] at h'
      exact h' 2 rfl M zfr_rfl hK
    · rw [if_neg (fun z => z c2)] at h'
      refine l_mworld hG hK (fun X hX JX hWX hEX => bX12_why_43 hG ?_)
      have sx := zfr_sm (S := [(235, 0, 156), (246, 0, 12), (247, 0, 2880), (3, 0, 4)]) hX (by decide)
      have x235 : ∀ i, 0 ≤ i → i < 156 → X 235 i = M 235 i := fun i i0 i1 => sx _ _ (zhit_at 0 rfl ⟨i0, i1⟩)
      have jq := (hK.2.2) q hq.1 hq.2
      have xa : zaM X (zth X) q = zaM M (zth M) q := by
        rw [zaM_e (M := M) hK.1 (by have := jq.2.1; omega) (x235 1 (by decide) (by decide)) (fun i i0 i1 => x235 i (by omega) (by omega)) (sx _ _ (zhit_at 1 rfl ⟨hq.1, by omega⟩)) (fun i i0 i1 => sx _ _ (zhit_at 2 rfl ⟨by omega, by omega⟩))]
        exact zaM_t jq (fun t t0 t1 => x235 (10 + t) (by omega) (by omega))
      refine l_mnow (d := d + 5) hG JX hWX hEX (by rw [x235 0 (by decide) (by decide)]; exact hq) (fun V => bX12_why_48 hG ?_)
      have hV : zfr zscr X (zrow X 250 V) := zfr_row zfr_rfl 7 rfl
      have JV := (L_sc JX hV)
      have hMV := zfr_trans (zwy1 hX) (zwy1 hV)
      have v235 : zrow X 250 V 235 = X 235 := zrow_off (by decide)
      rw [xa, v235, x235 3 (by decide) (by decide)]
      refine ⟨fun c3 => ?_, fun c3 => ?_⟩
      · rw [zlcmp_eq] at c3
        rw [if_neg (fun z => z c3)] at h'
        refine l_mbarring hG JV (by rw [v235, x235 0 (by decide) (by decide)]; exact hq) (fun N hN JN => ?_)
        have eb : zbar (zrow X 250 V) q = zbar M q := lbar_e hK (zfr_sm hMV (by decide)) hq
        have hMN := zfr_trans hMV (zwy2 hN)
        have bb : -1 ≤ zbar M q := by
          obtain ⟨m, hm⟩ := Int.eq_ofNat_of_zero_le n5.1
          unfold zbar
          exact (zbr_b _ (fun i i0 i1 => by have := sq i i0 (by omega); exact ⟨this.1, by omega⟩)).1
        rw [eb]
        refine bX12_why_66 hG ⟨fun z => ?_, fun z => ?_⟩
        · rw [if_pos (by omega)] at h'; exact h' 0 rfl N hMN JN
        · rw [if_neg (by omega)] at h'; exact h' 4 rfl N hMN JN
      · rw [zlcmp_eq] at c3
        rw [if_pos c3] at h'
        exact h' 3 rfl _ hMV JV
/-- the model's rows are those of P, but for what it scribbles -/
def zmq (P X : zM) : Prop := ∀ a i, 234 ≤ a → ¬ zhw zwyF a i → X a i = P a i
/-- the class's rows are left alone -/
def zcz (P X : zM) : Prop := ∀ a i, a ≤ 233 → ¬ zhw zwyF a i → X a i = P a i
theorem zcz_rf : zcz M M := fun _ _ _ _ => rfl
theorem zcz_tr {X Y' Z' : zM} (h1 : zcz X Y') (h2 : zcz Y' Z') : zcz X Z' := fun a i ha hn => (h2 a i ha hn).trans (h1 a i ha hn)
theorem zcz_f {l : List (Int × Int × Int)} {X N : zM} (h : zfr l X N) (hl : ∀ t ∈ l, t ∈ zwyF ∨ 234 ≤ t.1) : zcz X N := fun a i ha hn => h a i (by
  rintro (z | z | ⟨t, ht, z1, z2, z3⟩)
  · exact hn (Or.inl z)
  · exact hn (Or.inr (Or.inl z))
  · rcases hl t ht with y | y
    · exact hn (Or.inr (Or.inr ⟨t, y, z1, z2, z3⟩))
    · omega)
theorem zmq_sm {S : List (Int × Int × Int)} {P X : zM} (h : zmq P X) (hd : zdj S zwyF = true) (hS : ∀ t ∈ S, 234 ≤ t.1) : zsm S P X := by
  have hf : zfr zwyF (fun a i => if a ≤ 233 then X a i else P a i) X := fun a i hn => by
    show X a i = if a ≤ 233 then X a i else P a i
    by_cases c : a ≤ 233
    · rw [if_pos c]
    · rw [if_neg c]; exact h a i (by omega) hn
  intro a i hi
  have e := (zfr_sm hf hd) a i hi
  obtain ⟨t, ht, z1, z2, z3⟩ := hi
  have := hS t ht
  exact e.trans (if_neg (by omega))
def zpq (P X : zM) : Prop := zmq P X ∧ zJ16 X
theorem zmq_235 {P X : zM} (hf : zmq P X) : ∀ i, 0 ≤ i → i < 156 → X 235 i = P 235 i := fun i i0 i1 => (zmq_sm (S := [(235, 0, 156)]) hf (by decide) (by decide)) 235 i (zhit_at 0 rfl ⟨i0, i1⟩)
theorem zpq_235 {P X : zM} (hf : zpq P X) : ∀ i, 0 ≤ i → i < 156 → X 235 i = P 235 i := zmq_235 hf.1
theorem zmq_f {P X N : zM} (h : zmq P X) (hN : zfr zwyF X N) : zmq P N := fun a i ha hn => (hN a i hn).trans (h a i ha hn)
theorem zwhm_e {P X : zM} (hJ : zJ P) (hm : zmq P X) {p q : Int} (hp : 0 ≤ p ∧ p < P 235 2) (hq : 0 ≤ q ∧ q < P 235 0) : zwhm X p q = zwhy P p q := by
  have n12 : 0 ≤ P 235 0 ∧ P 235 0 ≤ 12 := hJ.1.1
  have n2 := hJ.1.2.2.1.1
  have n5 := (zV5_s hJ.1).1
  have sx := zmq_sm (S := [(235, 0, 156), (246, 0, 12), (247, 0, 2880), (248, 0, 48)]) hm (by decide) (by decide)
  have e : ∀ i, 0 ≤ i → i < 156 → X 235 i = P 235 i := zmq_235 hm
  have e8 : ∀ i, 0 ≤ i → i < 48 → X 248 i = P 248 i := fun i i0 i1 => sx _ _ (zhit_at 3 rfl ⟨i0, i1⟩)
  have jq := (zK_of hJ).2.2 q hq.1 hq.2
  have hm1 : zmlac X p q = zmlac P p q := by
    unfold zmlac
    rw [e8 (4 * q) (by omega) (by omega), e8 (4 * q + 3) (by omega) (by omega), e8 (4 * q + 1) (by omega) (by omega), e8 (4 * q + 2) (by omega) (by omega), e (74 + 5 * p + 1) (by omega) (by omega), e (74 + 5 * p + 2) (by omega) (by omega), e (74 + 5 * p + 3) (by omega) (by omega), e (74 + 5 * p + 4) (by omega) (by omega)]
  have ha : zaM X (zth X) q = zaM P (P 3) q := by
    rw [zaM_e (M := P) hJ.1 (by have := jq.2.1; omega) (e 1 (by decide) (by decide)) (fun i i0 i1 => e i (by omega) (by omega)) (sx _ _ (zhit_at 1 rfl ⟨hq.1, by omega⟩)) (fun i i0 i1 => sx _ _ (zhit_at 2 rfl ⟨by omega, by omega⟩))]
    exact zaM_t jq (fun t t0 t1 => (e (10 + t) (by omega) (by omega)).trans ((zj_j1 hJ) t t0 t1).symm)
  unfold zwhm zwhy
  rw [zha_e n5 e p, hm1, ha, e 3 (by decide) (by decide), zbar_e hJ (zmq_sm hm (by decide) (by decide)) hq]
theorem zLm_of {P X : zM} (hJ : zJ P) (hf : zpq P X) : zLm X := ⟨zVA_ext hJ.1 (fun i hi => zpq_235 hf i (by omega) (by omega)), True.intro, hf.2⟩
theorem l_ask (hG : zP G) {P X : zM} (hJ : zJ P) (hf : zpq P X) {p q : Int} (hp : 0 ≤ p ∧ p < P 235 2) (hq : 0 ≤ q ∧ q < P 235 0) (h1 : zwhy P p q = 0 → ∀ X', zpq (zak P p q) X' → zcz X X' → Q (0, P 235 5 + 1) X') (h0 : zwhy P p q ≠ 0 → ∀ X', zpq P X' → zcz X X' → Q (0, -1) X') : Y G (d + 9) mX12_ask 0 [(2, 234), (0, p), (0, q)] [] X Q := by
  have n2 := hJ.1.2.2.1.1
  have n12 : 0 ≤ P 235 0 ∧ P 235 0 ≤ 12 := hJ.1.1
  have n5 := (zV5_s hJ.1).1
  have x235 := zpq_235 hf
  refine bX12_ask_0 hG (l_mwhy (d := d) hG (zLm_of hJ hf) (by rw [x235 2 (by decide) (by decide)]; exact hp) (by rw [x235 0 (by decide) (by decide)]; exact hq) (fun N hN LN => ?_))
  rw [zwhm_e hJ hf.1 hp hq]
  have mN := zmq_f hf.1 hN
  have n235 := zmq_235 mN
  have cN : zcz X N := zcz_f hN (fun t ht => Or.inl ht)
  refine bX12_ask_6 hG ⟨fun c => ?_, fun c => h0 c N ⟨mN, LN.2.2⟩ cN⟩
  have rm := zroom hJ.1 hp (zwhy_0 c)
  rw [n235 5 (by decide) (by decide)]
  have fr : ∀ u v w : Int, zfr [(235, 5, 6), (235, 104, 116)] N (zset (zset (zset N 235 (104 + 2 * P 235 5) u) 235 (104 + 2 * P 235 5 + 1) v) 235 5 w) := fun u v w => zfr_set (zfr_set (zfr_set zfr_rfl (zhit_at 1 rfl ⟨by omega, by omega⟩)) (zhit_at 1 rfl ⟨by omega, by omega⟩)) (zhit_at 0 rfl (by decide))
  refine ⟨by omega, by omega, by omega, by omega, by omega, by omega, by omega, by omega, by omega, by omega, by omega, h1 c _ ⟨fun a i ha hn => ?_, zJ16_c (zfr_sm (fr _ _ _) (by decide)) (by rw [n235 0 (by decide) (by decide)]; exact n12.2) LN.2.2⟩ (zcz_tr cN (zcz_f (fr _ _ _) (fun t ht => Or.inr (by revert t; decide))))⟩
  by_cases c5 : a = 235 ∧ i = 5
  · rw [c5.1, c5.2, zset_same, zak_5]
  · rw [zset_ne c5]
    by_cases cq : a = 235 ∧ i = 104 + 2 * P 235 5 + 1
    · rw [cq.1, cq.2, zset_same, show 104 + 2 * P 235 5 + 1 = 105 + 2 * P 235 5 by omega, zak_q n5.1]
    · rw [zset_ne cq]
      by_cases cp : a = 235 ∧ i = 104 + 2 * P 235 5
      · rw [cp.1, cp.2, zset_same, zak_p n5.1]
      · rw [zset_ne cp, mN a i ha hn]
        refine (zak_o (fun z => ?_) (fun z => ?_) (fun z => ?_) (fun z => ?_)).symm
        · omega
        · omega
        · omega
        · omega
theorem l_low (hG : zP G) {P X0 X : zM} (hJ : zJ P) (hf : zpq P X) (h0 : zcz X0 X) {p : Int} (hp : 0 ≤ p ∧ p < P 235 2) (h : ∀ X', zpq (zasl P p) X' → zcz X0 X' → Q (0, if zlow P p = -1 then 0 else 1) X') : Y G (d + 10) mX12_asksLowest 0 [(2, 234), (0, p), (9, 0)] [] X Q := by
  have n12 : 0 ≤ P 235 0 ∧ P 235 0 ≤ 12 := hJ.1.1
  have n5 := (zV5_s hJ.1).1
  have lp : ∀ (r : Nat) (q : Int) (X : zM), 0 ≤ q → q + r = P 235 0 → zlow P p = zlo P p r q → zpq P X → zcz X0 X → Y G (d + 10) mX12_asksLowest 2 [(2, 234), (0, p), (0, q)] [] X Q := fun r => by
    induction r with
    | zero =>
      intro q X q0 q1 e hX hX0
      have e' : zlow P p = -1 := e
      have := h X (by unfold zasl; rw [if_pos e']; exact hX) hX0
      rw [if_pos e'] at this
      refine bX12_asksLowest_2 hG ⟨fun _ => this, fun c => absurd c ?_⟩
      rw [zpq_235 hX 0 (by decide) (by decide)]; omega
    | succ r ih =>
      intro q X q0 q1 e hX hX0
      have st : zlo P p (r + 1) q = if zwhy P p q = 0 then q else zlo P p r (q + 1) := rfl
      rw [st] at e
      refine bX12_asksLowest_2 hG ?_
      rw [zpq_235 hX 0 (by decide) (by decide)]
      refine ⟨fun c => absurd c (by omega), fun _ => l_ask hG hJ hX hp ⟨q0, by omega⟩ (fun c X' a1 a2 => ?_) (fun c X' a1 a2 => ?_)⟩
      · rw [if_pos c] at e
        have ne : zlow P p ≠ -1 := by omega
        have := h X' (by unfold zasl; rw [if_neg ne, e]; exact a1) (zcz_tr hX0 a2)
        rw [if_neg ne] at this
        exact bX12_asksLowest_18 hG ⟨fun z => absurd z (by omega), fun _ => this⟩
      · rw [if_neg c] at e
        exact bX12_asksLowest_18 hG ⟨fun _ => ⟨by omega, ih (q + 1) X' (by omega) (by omega) e a1 (zcz_tr hX0 a2)⟩, fun z => absurd z (by decide)⟩
  exact bX12_asksLowest_0 hG (lp _ 0 X (by omega) (by omega) rfl hf h0)
theorem l_mor (hG : zP G) {X0 : zM} {f : Int → Int} {n : Nat} (hn : n ≤ 6) {had sd : Int} (h6 : 0 ≤ had ∧ had ≤ 6) : ∀ (r : Nat) (P X : zM) (s x : Nat) (cnt : Int), zJ P → zpq P X → zcz X0 X → P 235 2 = n → (∀ p, 0 ≤ p → p < (n : Int) → P 235 (74 + 5 * p) = f p) → s < 2 ^ n → zpc s ≤ r → x ≤ 30011 → cnt = P 235 5 - had → (∀ X', zpq (zmor f n sd r P s x) X' → zcz X0 X' → Q (0, (zmor f n sd r P s x) 235 5 - had) X') → Y G (d + 11) mX12_morning 29 [(2, 234), (0, sd), (0, (s : Int)), (0, (x : Int)), (0, cnt), (9, 0)] [] X Q
  | 0, P, X, s, x, cnt, hJ, hf, h0, e2, hA, hs, hr, hx, hc, h => by
    have s0 : s = 0 := (zsp_p0 s (by have := zpw6 hn; omega)).mp (by omega)
    rw [hc]
    exact bX12_morning_29 hG ⟨fun _ => h X hf h0, fun c => absurd (by rw [s0]; rfl) c⟩
  | r + 1, P, X, s, x, cnt, hJ, hf, h0, e2, hA, hs, hr, hx, hc, h => by
    have st : zmor f n sd (r + 1) P s x = if s = 0 then P else zmor f n sd r (zasl P (zpick f n sd s x)) (s - 2 ^ (zpick f n sd s x).toNat) ((x * 131 + 89) % 30011) := rfl
    rw [st] at h
    have h64 := zpw6 hn
    have n5 := (zV5_s hJ.1).1
    have x235 := zpq_235 hf
    by_cases s0 : s = 0
    · rw [if_pos s0] at h
      rw [hc]
      exact bX12_morning_29 hG ⟨fun _ => h X hf h0, fun c => absurd (by rw [s0]; rfl) c⟩
    · rw [if_neg s0] at h
      obtain ⟨p, hp, p1, pb⟩ := zpick_s (f := f) (x := x) (sd := sd) hn hs s0
      obtain ⟨t1, t2, t3⟩ := zsp_tab s (by omega) p (by omega) pb
      have sl := Nat.lt_of_le_of_lt (Nat.sub_le s (2 ^ p)) hs
      rw [hp, Int.toNat_natCast] at h
      have hpr : (0 : Int) ≤ (p : Int) ∧ (p : Int) < P 235 2 := by omega
      have n12 : 0 ≤ P 235 0 ∧ P 235 0 ≤ 12 := hJ.1.1
      have pc : 0 < zpc s := by omega
      have pcl := (zsp_pc n (by omega) s hs).1
      have xm := Nat.mod_lt (x * 131 + 89) (show 0 < 30011 by decide)
      have go : Y G (d + 10) mX12_asksLowest 0 [(2, 234), (0, (p : Int)), (9, 0)] [] X (fun r M' => Y G (d + 10 + 1) mX12_morning 89 [(2, 234), (0, sd), (0, ((s - 2 ^ p : Nat) : Int)), (0, (((x * 131 + 89) % 30011 : Nat) : Int)), (0, cnt), (0, (p : Int))] (zpush r [(0, cnt)]) M' Q) := by
        refine l_low hG hJ hf h0 hpr (fun X' a1 a2 => bX12_morning_89 hG ?_)
        by_cases c : zlow P p = -1
        · rw [if_pos c]
          unfold zasl at h a1
          rw [if_pos c] at h a1
          refine ⟨fun _ => ⟨by omega, ?_⟩, fun z => absurd rfl z⟩
          rw [Int.add_zero]
          exact l_mor hG hn h6 r P X' (s - 2 ^ p) ((x * 131 + 89) % 30011) cnt hJ a1 a2 e2 hA sl (by omega) (by omega) hc h
        · rw [if_neg c]
          unfold zasl at h a1
          rw [if_neg c] at h a1
          obtain ⟨lr, lw⟩ := zlow_r c n12.1
          have rm := zroom hJ.1 hpr (zwhy_0 lw)
          have n2 := hJ.1.2.2.1.1
          exact ⟨fun z => absurd z (by decide), fun _ => ⟨by omega, l_mor hG hn h6 r (zak P p (zlow P p)) X' (s - 2 ^ p) ((x * 131 + 89) % 30011) (cnt + 1) (J_ak hJ hpr lr (zwhy_0 lw)).1 a1 a2 (by rw [zak_c n5.1 (by omega) (by omega)]; exact e2) (fun y y0 y1 => by rw [zak_c n5.1 (by omega) (by omega)]; exact hA y y0 y1) sl (by omega) (by omega) (by rw [zak_5]; omega) h⟩⟩
      refine bX12_morning_29 hG ⟨fun c => absurd c (by omega), fun _ => ⟨fun c => ?_, fun c => ?_⟩⟩
      · refine s_mbits hG (by omega) (bX12_morning_53 hG ⟨by omega, ?_⟩)
        rw [zrem_n (by omega) pc (by omega)]
        have hq : znth (s : Int) n ((x % zpc s : Nat) : Int) 0 = (p : Int) := by unfold zpick at hp; rw [if_neg c] at hp; exact hp
        refine bX12_nth_0 hG (m_nth hG (by omega) n _ 0 (by omega) (by have := Nat.mod_lt x pc; omega) (by omega) (by omega) (by rw [hq]; omega) ?_)
        rw [hq]
        refine bX12_morning_57 hG ⟨by omega, by omega, ?_⟩
        rw [t1, zmul131 hx]
        exact go
      · refine bX12_youngest_0 hG (s_myg (n := n) (f := f) hG (by omega) ⟨by rw [x235 2 (by decide) (by decide)]; exact e2, by omega, by omega⟩ (fun y y0 y1 => by rw [x235 _ (by omega) (by omega)]; exact hA y y0 y1) n 0 (-1) (by omega) (by omega) (by omega) (by omega) ?_)
        rw [show zyg f (s : Int) n 0 (-1) = (p : Int) from by unfold zpick at hp; rw [if_pos c] at hp; exact hp]
        refine bX12_morning_43 hG ⟨by omega, by omega, ?_⟩
        rw [t1, zmul131 hx]
        exact go
/-- both sides have gone on to P -/
theorem J_mq {P X : zM} (hJ : zJ P) (h1 : zmq P X) (h2 : zcz P X) : zJn P X := J_wy hJ (fun a i hn => by
  by_cases c : a ≤ 233
  · exact h2 a i c hn
  · exact h1 a i (by omega) hn)
end PM1
