section PY
variable {G : zG} {d : Nat} {M : zM} {Q : zV → zM → Prop}
def zpks (s : Nat) : Nat → Nat
  | 0 => 0
  | k + 1 => zpks s k + s / 2 ^ k % 2
theorem zpks_20 : ∀ s : Nat, s < 64 → zpks s 20 = zpc s := by decide +kernel
theorem zpks_b (s : Nat) : ∀ k : Nat, zpks s k ≤ k
  | 0 => Nat.le_refl 0
  | k + 1 => by
    have q := zpks_b s k
    have w : s / 2 ^ k % 2 < 2 := Nat.mod_lt _ (by decide)
    show zpks s k + s / 2 ^ k % 2 ≤ k + 1
    omega
theorem s_mbits (hG : zP G) {s : Nat} (hs : s < 64) (h : Q (0, (zpc s : Int)) M) : Y G d mX12_bits 0 [(0, (s : Int)), (9, 0), (9, 0)] [] M Q := by
  have lp : ∀ (r k : Nat), k + r = 20 → Y G d mX12_bits 4 [(0, (s : Int)), (0, (zpks s k : Int)), (0, (k : Int))] [] M Q := fun r => by
    induction r with
    | zero =>
      intro k hk
      have : k = 20 := by omega
      subst this
      rw [zpks_20 s hs]
      exact bX12_bits_4 hG ⟨fun _ => h, fun c => absurd c (by decide)⟩
    | succ r ih =>
      intro k hk
      have e : zand (zshr (s : Int) (k : Int)) 1 = ((s / 2 ^ k % 2 : Nat) : Int) := by rw [zshr_n (by omega) (by omega), zand1_n]
      have b := zpks_b s k
      have w : s / 2 ^ k % 2 < 2 := Nat.mod_lt _ (by decide)
      have nx := ih (k + 1) (by omega)
      rw [show ((zpks s (k + 1) : Nat) : Int) = (zpks s k : Int) + ((s / 2 ^ k % 2 : Nat) : Int) from rfl] at nx
      refine bX12_bits_4 hG ⟨fun c => absurd c (by omega), fun _ => ?_⟩
      rw [e]
      exact ⟨by omega, by omega, nx⟩
  exact bX12_bits_0 hG (lp 20 0 (by omega))
/-- the one with so many of a set ahead -/
def znth (s : Int) : Nat → Int → Int → Int
  | 0, _, _ => -1
  | r + 1, l, p => if zbt s p = true then (if l = 0 then p else znth s r (l - 1) (p + 1)) else znth s r l (p + 1)
theorem znth_tab : ∀ n : Nat, n < 7 → ∀ s : Nat, s < 2 ^ n → ∀ l : Nat, l < zpc s → 0 ≤ znth s n l 0 ∧ znth s n l 0 < (n : Int) ∧ zbt s (znth s n l 0) = true := by decide +kernel
theorem s_cdr (hG : zP G) {s n x2 : Int} (hs : 0 ≤ s ∧ s ≤ 63) (hn : M 157 5 = n ∧ 0 ≤ n ∧ n ≤ 6) : ∀ (r : Nat) (l p : Int), 0 ≤ l → l ≤ 100 → 0 ≤ p → p + r = n → Q (0, znth s r l p) M → Y G (d + 1) mX6_drawn 16 [(2, 157), (0, s), (0, x2), (0, l), (0, p)] [] M Q
  | 0, l, p, l0, l1, p0, p1, h => bX6_drawn_16 hG ⟨fun _ => h, fun c => absurd c (by omega)⟩
  | r + 1, l, p, l0, l1, p0, p1, h => by
    have e : znth s (r + 1) l p = if zbt s p = true then (if l = 0 then p else znth s r (l - 1) (p + 1)) else znth s r l (p + 1) := rfl
    rw [e] at h
    have hz := zbt_c (x := s) (t := p) (by omega) (by omega)
    refine bX6_drawn_16 hG ?_
    rw [hn.1]
    refine ⟨fun c => absurd c (by omega), fun _ => ⟨fun c => ⟨by omega, s_cdr hG hs hn r l (p + 1) l0 l1 (by omega) (by omega) ?_⟩, fun c => ?_⟩⟩
    · rw [if_neg (by rw [hz.mp c]; decide)] at h; exact h
    · have hb : zbt s p = true := by
        cases hq : zbt s p with
        | true => rfl
        | false => exact absurd (hz.mpr hq) c
      rw [if_pos hb] at h
      refine ⟨fun c2 => ⟨by omega, by omega, s_cdr hG hs hn r (l + -1) (p + 1) (by omega) (by omega) (by omega) (by omega) ?_⟩, fun c2 => ?_⟩
      · rw [if_neg c2] at h; exact h
      · rw [if_pos c2] at h; exact h
theorem m_nth (hG : zP G) {s x2 : Int} (hs : 0 ≤ s ∧ s ≤ 63) : ∀ (r : Nat) (l p : Int), 0 ≤ l → l ≤ 100 → 0 ≤ p → p + r ≤ 31 → znth s r l p ≠ -1 → Q (0, znth s r l p) M → Y G (d + 1) mX12_nth 5 [(2, 234), (0, s), (0, x2), (0, l), (0, p)] [] M Q
  | 0, l, p, l0, l1, p0, p1, hne, h => absurd rfl hne
  | r + 1, l, p, l0, l1, p0, p1, hne, h => by
    have e : znth s (r + 1) l p = if zbt s p = true then (if l = 0 then p else znth s r (l - 1) (p + 1)) else znth s r l (p + 1) := rfl
    rw [e] at h hne
    have hz := zbt_m (x := s) (t := p) (by omega) (by omega)
    refine bX12_nth_5 hG ?_
    rw [Int.sub_zero]
    refine ⟨fun c => ⟨fun c2 => ?_, fun c2 => ⟨fun _ => ⟨by omega, by omega, ?_⟩, fun z => absurd c z⟩⟩, fun c => ⟨fun z => absurd z c, fun _ => ⟨by omega, by omega, ?_⟩⟩⟩
    · rw [if_pos (hz.mp c), if_pos (by omega)] at h; exact h
    · rw [if_pos (hz.mp c), if_neg (by omega)] at h hne
      exact m_nth hG hs r (l - 1) (p + 1) (by omega) (by omega) (by omega) (by omega) hne h
    · rw [if_neg (fun z => c (hz.mpr z))] at h hne
      exact m_nth hG hs r l (p + 1) l0 l1 (by omega) (by omega) hne h
def zpick (f : Int → Int) (n : Nat) (sd : Int) (s x : Nat) : Int := if sd = -1 then zyg f s n 0 (-1) else znth s n ((x % zpc s : Nat) : Int) 0
theorem zpick_s {f : Int → Int} {n s x : Nat} {sd : Int} (hn : n ≤ 6) (hs : s < 2 ^ n) (h0 : s ≠ 0) : ∃ p : Nat, zpick f n sd s x = (p : Int) ∧ p < n ∧ s.testBit p = true := by
  unfold zpick
  by_cases c : sd = -1
  · rw [if_pos c]; exact zyg_s hn hs h0
  · rw [if_neg c]
    have h64 := zpw6 hn
    have pc : 0 < zpc s := by
      have := zsp_p0 s (by omega)
      omega
    have t := znth_tab n (by omega) s hs (x % zpc s) (Nat.mod_lt _ pc)
    obtain ⟨p, hp⟩ := Int.eq_ofNat_of_zero_le t.1
    refine ⟨p, hp, by omega, ?_⟩
    have := t.2.2
    rw [hp] at this
    exact this
noncomputable def zmor (f : Int → Int) (n : Nat) (sd : Int) : Nat → zM → Nat → Nat → zM
  | 0, P, _, _ => P
  | r + 1, P, s, x => if s = 0 then P else zmor f n sd r (zasl P (zpick f n sd s x)) (s - 2 ^ (zpick f n sd s x).toNat) ((x * 131 + 89) % 30011)
theorem zmul131 {x : Nat} (h : x ≤ 30011) : zrem ((x : Int) * 131 + 89) 30011 = (((x * 131 + 89) % 30011 : Nat) : Int) := by
  have e : (x : Int) * 131 + 89 = ((x * 131 + 89 : Nat) : Int) := by omega
  rw [e]
  exact zrem_n (b := 30011) (by omega) (by decide) (by decide)
theorem k_mor (hG : zP G) {N : zM} {f : Int → Int} {n : Nat} (hn : n ≤ 6) {had sd : Int} (h6 : 0 ≤ had ∧ had ≤ 6) : ∀ (r : Nat) (P M : zM) (s turn x : Nat), zCk P M → zfr zkC N M → P 235 2 = n → (∀ p, 0 ≤ p → p < (n : Int) → P 235 (74 + 5 * p) = f p) → s < 2 ^ n → turn + zpc s ≤ n → zpc s ≤ r → x ≤ 30011 → (∀ M', zCk (zmor f n sd r P s x) M' → zfr zkC N M' → Q (0, (zmor f n sd r P s x) 235 5 - had) M') → Y G (d + 4) mX6_holdMorning 22 [(2, 157), (0, sd), (2, 19), (0, had), (0, (s : Int)), (0, (x : Int)), (0, (turn : Int)), (9, 0), (9, 0)] [] M Q
  | 0, P, M, s, turn, x, hC, hf, e2, hA, hs, ht, hr, hx, h => by
    have s0 : s = 0 := (zsp_p0 s (by have := zpw6 hn; omega)).mp (by omega)
    have n5 := (zV5_s hC.1.1).1
    have e9 : M 157 9 = P 235 5 := by rw [hC.2.1 157 (by decide)]; exact (zj_j13 hC.1).1
    have h' := h M hC hf
    refine bX6_holdMorning_22 hG ?_
    rw [e9]
    exact ⟨fun _ => ⟨by omega, h'⟩, fun _ => ⟨fun _ => ⟨by omega, h'⟩, fun c => absurd (by rw [s0]; rfl) c⟩⟩
  | r + 1, P, M, s, turn, x, hC, hf, e2, hA, hs, ht, hr, hx, h => by
    have st : zmor f n sd (r + 1) P s x = if s = 0 then P else zmor f n sd r (zasl P (zpick f n sd s x)) (s - 2 ^ (zpick f n sd s x).toNat) ((x * 131 + 89) % 30011) := rfl
    rw [st] at h
    have h64 := zpw6 hn
    have n5 := (zV5_s hC.1.1).1
    have e9 : M 157 9 = P 235 5 := by rw [hC.2.1 157 (by decide)]; exact (zj_j13 hC.1).1
    have m5 : M 157 5 = n := by rw [hC.2.1 157 (by decide), (zj_j11 hC.1).1]; exact e2
    by_cases s0 : s = 0
    · rw [if_pos s0] at h
      have h' := h M hC hf
      refine bX6_holdMorning_22 hG ?_
      rw [e9]
      exact ⟨fun _ => ⟨by omega, h'⟩, fun _ => ⟨fun _ => ⟨by omega, h'⟩, fun c => absurd (by rw [s0]; rfl) c⟩⟩
    · rw [if_neg s0] at h
      obtain ⟨p, hp, p1, pb⟩ := zpick_s (f := f) (x := x) (sd := sd) hn hs s0
      obtain ⟨t1, t2, t3⟩ := zsp_tab s (by omega) p (by omega) pb
      have sl := Nat.lt_of_le_of_lt (Nat.sub_le s (2 ^ p)) hs
      rw [hp, Int.toNat_natCast] at h
      have hpr : (0 : Int) ≤ (p : Int) ∧ (p : Int) < P 235 2 := by omega
      have n12 : 0 ≤ P 235 0 ∧ P 235 0 ≤ 12 := hC.1.1.1
      have pc : 0 < zpc s := by omega
      have pcl := (zsp_pc n (by omega) s hs).1
      have xm := Nat.mod_lt (x * 131 + 89) (show 0 < 30011 by decide)
      have go : Y G (d + 3) mX6_lowestNow 0 [(2, 157), (0, (p : Int)), (2, 19), (9, 0)] [] M (fun r M' => Y G (d + 3 + 1) mX6_holdMorning 102 [(2, 157), (0, sd), (2, 19), (0, had), (0, ((s - 2 ^ p : Nat) : Int)), (0, (((x * 131 + 89) % 30011 : Nat) : Int)), (0, (turn : Int)), (0, (p : Int)), (9, 0)] (zpush r []) M' Q) := by
        refine k_low hG hC hpr (bX6_holdMorning_102 hG ⟨fun c => ⟨by omega, ?_⟩, fun c => ?_⟩)
        · unfold zasl at h
          rw [if_pos c] at h
          exact k_mor hG hn h6 r P M (s - 2 ^ p) (turn + 1) ((x * 131 + 89) % 30011) hC hf e2 hA sl (by omega) (by omega) (by omega) h
        · unfold zasl at h
          rw [if_neg c] at h
          obtain ⟨lr, lw⟩ := zlow_r c n12.1
          have rm := zroom hC.1.1 hpr (zwhy_0 lw)
          have n2 := hC.1.1.2.2.1.1
          refine k_step hG hC hpr lr lw (fun M' hC' hf' => bX6_holdMorning_118 hG ⟨by omega, ?_⟩)
          exact k_mor hG hn h6 r (zak P p (zlow P p)) M' (s - 2 ^ p) (turn + 1) ((x * 131 + 89) % 30011) hC' (zfr_trans hf hf') (by rw [zak_c n5.1 (by omega) (by omega)]; exact e2) (fun y y0 y1 => by rw [zak_c n5.1 (by omega) (by omega)]; exact hA y y0 y1) sl (by omega) (by omega) (by omega) h
      refine bX6_holdMorning_22 hG ?_
      rw [m5]
      refine ⟨fun c => absurd c (by omega), fun _ => ⟨fun c => absurd c (by omega), fun _ => ⟨fun c => ?_, fun c => ?_⟩⟩⟩
      · refine bX6_drawn_0 hG (s_bc hG (by omega) (bX6_drawn_6 hG (by omega) pc (by omega) (s_cdr (n := n) hG (by omega) ⟨m5, by omega, by omega⟩ n _ 0 (by omega) (by have := Nat.mod_lt x pc; omega) (by omega) (by omega) ?_)))
        rw [show znth (s : Int) n ((x % zpc s : Nat) : Int) 0 = (p : Int) from by unfold zpick at hp; rw [if_neg c] at hp; exact hp]
        refine bX6_holdMorning_58 hG ⟨fun _ => ⟨by omega, by omega, ?_⟩, fun z => absurd z (by omega)⟩
        rw [t1, zmul131 hx]
        exact go
      · refine bX6_youngest_0 hG (s_cyg (n := n) (f := f) hG (by omega) ⟨m5, by omega, by omega⟩ (fun y y0 y1 => by rw [hC.2.1 158 (by decide), ((zj_j11 hC.1).2 y y0 (by omega)).1]; exact hA y y0 y1) n 0 (-1) (by omega) (by omega) (by omega) (by omega) ?_)
        rw [show zyg f (s : Int) n 0 (-1) = (p : Int) from by unfold zpick at hp; rw [if_pos c] at hp; exact hp]
        refine bX6_holdMorning_47 hG ⟨fun _ => ⟨by omega, by omega, ?_⟩, fun z => absurd z (by omega)⟩
        rw [t1, zmul131 hx]
        exact go
theorem m_mor (hG : zP G) {X0 : zM} {f : Int → Int} {n : Nat} (hn : n ≤ 6) {had sd : Int} (h6 : 0 ≤ had ∧ had ≤ 6) : ∀ (r : Nat) (P X : zM) (s x : Nat) (cnt : Int), zJ P → zfr zkF P X → zfr zwM X0 X → P 235 2 = n → (∀ p, 0 ≤ p → p < (n : Int) → P 235 (74 + 5 * p) = f p) → s < 2 ^ n → zpc s ≤ r → x ≤ 30011 → cnt = P 235 5 - had → (∀ X', zfr zkF (zmor f n sd r P s x) X' → zfr zwM X0 X' → Q (0, (zmor f n sd r P s x) 235 5 - had) X') → Y G (d + 11) mX12_morning 29 [(2, 234), (0, sd), (0, (s : Int)), (0, (x : Int)), (0, cnt), (9, 0)] [] X Q
  | 0, P, X, s, x, cnt, hJ, hf, h0, e2, hA, hs, hr, hx, hc, h => by
    have s0 : s = 0 := (zsp_p0 s (by have := zpw6 hn; omega)).mp (by omega)
    rw [hc]
    exact bX12_morning_29 hG ⟨fun _ => h X hf h0, fun c => absurd (by rw [s0]; rfl) c⟩
  | r + 1, P, X, s, x, cnt, hJ, hf, h0, e2, hA, hs, hr, hx, hc, h => by
    have st : zmor f n sd (r + 1) P s x = if s = 0 then P else zmor f n sd r (zasl P (zpick f n sd s x)) (s - 2 ^ (zpick f n sd s x).toNat) ((x * 131 + 89) % 30011) := rfl
    rw [st] at h
    have h64 := zpw6 hn
    have n5 := (zV5_s hJ.1).1
    have x235 := zkF_235 hf
    by_cases s0 : s = 0
    · rw [if_pos s0] at h
      rw [hc]
      exact bX12_morning_29 hG ⟨fun _ => h X hf h0, fun c => absurd (by rw [s0]; rfl) c⟩
    · rw [if_neg s0] at h
      obtain ⟨p, hp, p1, pb⟩ := zpick_s (f := f) (x := x) (sd := sd) hn hs s0
      obtain ⟨t1, t2, t3⟩ := zsp_tab s (by omega) p (by omega) pb
      have sl := Nat.lt_of_le_of_lt (Nat.sub_le s (2 ^ p)) hs
      rw [hp, Int.toNat_natCast] at h
      have hpr : (0 : Int) ≤ (p : Int) ∧ (p : Int) < P 235 2 := by omega
      have n12 : 0 ≤ P 235 0 ∧ P 235 0 ≤ 12 := hJ.1.1
      have pc : 0 < zpc s := by omega
      have pcl := (zsp_pc n (by omega) s hs).1
      have xm := Nat.mod_lt (x * 131 + 89) (show 0 < 30011 by decide)
      have go : Y G (d + 10) mX12_asksLowest 0 [(2, 234), (0, (p : Int)), (9, 0)] [] X (fun r M' => Y G (d + 10 + 1) mX12_morning 89 [(2, 234), (0, sd), (0, ((s - 2 ^ p : Nat) : Int)), (0, (((x * 131 + 89) % 30011 : Nat) : Int)), (0, cnt), (0, (p : Int))] (zpush r [(0, cnt)]) M' Q) := by
        refine m_low hG hJ hf h0 hpr (fun X' a1 a2 => bX12_morning_89 hG ?_)
        by_cases c : zlow P p = -1
        · rw [if_pos c]
          unfold zasl at h a1
          rw [if_pos c] at h a1
          refine ⟨fun _ => ⟨by omega, ?_⟩, fun z => absurd rfl z⟩
          rw [Int.add_zero]
          exact m_mor hG hn h6 r P X' (s - 2 ^ p) ((x * 131 + 89) % 30011) cnt hJ a1 a2 e2 hA sl (by omega) (by omega) hc h
        · rw [if_neg c]
          unfold zasl at h a1
          rw [if_neg c] at h a1
          obtain ⟨lr, lw⟩ := zlow_r c n12.1
          have rm := zroom hJ.1 hpr (zwhy_0 lw)
          have n2 := hJ.1.2.2.1.1
          exact ⟨fun z => absurd z (by decide), fun _ => ⟨by omega, m_mor hG hn h6 r (zak P p (zlow P p)) X' (s - 2 ^ p) ((x * 131 + 89) % 30011) (cnt + 1) (J_ak hJ hpr lr (zwhy_0 lw)).1 a1 a2 (by rw [zak_c n5.1 (by omega) (by omega)]; exact e2) (fun y y0 y1 => by rw [zak_c n5.1 (by omega) (by omega)]; exact hA y y0 y1) sl (by omega) (by omega) (by rw [zak_5]; omega) h⟩⟩
      refine bX12_morning_29 hG ⟨fun c => absurd c (by omega), fun _ => ⟨fun c => ?_, fun c => ?_⟩⟩
      · refine s_mbits hG (by omega) (bX12_morning_53 hG ⟨by omega, ?_⟩)
        rw [zrem_n (by omega) pc (by omega)]
        have hq : znth (s : Int) n ((x % zpc s : Nat) : Int) 0 = (p : Int) := by unfold zpick at hp; rw [if_neg c] at hp; exact hp
        refine bX12_nth_0 hG (m_nth hG (by omega) n _ 0 (by omega) (by have := Nat.mod_lt x pc; omega) (by omega) (by omega) (by rw [hq]; omega) ?_)
        rw [hq]
        refine bX12_morning_57 hG ⟨by omega, by omega, ?_⟩
        rw [t1, zmul131 hx]
        exact go
      · refine bX12_youngest_0 hG (s_myg (n := n) (f := f) hG (by omega) ⟨by rw [x235 2 (by decide) (by decide)]; exact e2, by omega, by omega⟩ (fun y y0 y1 => by rw [x235 _ (by omega) (by omega)]; exact hA y y0 y1) n 0 (-1) (by omega) (by omega) (by omega) (by omega) ?_)
        rw [show zyg f (s : Int) n 0 (-1) = (p : Int) from by unfold zpick at hp; rw [if_pos c] at hp; exact hp]
        refine bX12_morning_43 hG ⟨by omega, by omega, ?_⟩
        rw [t1, zmul131 hx]
        exact go
/-- both sides have gone on to P -/
theorem J_both {P X0 X N : zM} (C' : zCk P X0) (f' : zfr zkC N X0) (a1 : zfr zkF P X) (a2 : zfr zwM X0 X) : zJ X ∧ X 2 10 = N 2 10 := by
  have key : zfr zwyF P X := fun a i hn => by
    have lo : 0 ≤ i ∧ i < 1000000 := ⟨Int.not_lt.mp (fun z => hn (Or.inl z)), Int.not_le.mp (fun z => hn (Or.inr (Or.inl z)))⟩
    have nh : ¬ zhit zwyF a i := fun z => hn (Or.inr (Or.inr z))
    by_cases ca : a ≤ 233
    · have e1 : X a i = X0 a i := a2 a i (by
        rintro (z | z | ⟨t, ht, z1, z2, z3⟩)
        · omega
        · omega
        · rcases List.mem_append.mp ht with y | y
          · exact nh ⟨t, y, z1, z2, z3⟩
          · rw [List.mem_singleton] at y; subst y; simp only at z1; omega)
      rw [e1, C'.2.1 a ca]
    · exact a1 a i (by
        rintro (z | z | ⟨t, ht, z1, z2, z3⟩)
        · omega
        · omega
        · rcases List.mem_append.mp ht with y | y
          · exact nh ⟨t, y, z1, z2, z3⟩
          · have : t.1 ≤ 233 := (by decide : ∀ t ∈ zkC, t.1 ≤ 233) t y
            omega)
  refine ⟨(J_wy C'.1 key).1, ?_⟩
  rw [a2 2 10 (by unfold zhw zhit zwM zwyF; decide), f' 2 10 (by unfold zhw zhit; decide)]
theorem pr_morning (hG : zP G) (hJ : zJ M) {x1 : Int} : zPr G d mX11_morning mX12_morning [(2, 1), (0, x1)] [(2, 234), (0, x1), (9, 0), (9, 0), (9, 0), (9, 0)] M := by
  refine bX11_morning_0 hG ⟨fun q => ?_, fun q => bX12_morning_0 hG ⟨fun z => absurd z q, fun _ => ⟨rfl, zJ_rf hJ⟩⟩⟩
  refine s_stockJ (d := d + 189) hG hJ (fun N JN hf e13 hW => bX11_morning_18 hG ?_)
  have CN := zCk_0 hJ JN hf e13 hW
  have v10 : N 2 10 = M 2 10 := (zfr_sm (S := [(2, 10, 11)]) hf (by decide)) 2 10 (zhit_at 0 rfl ⟨by decide, by decide⟩)
  have n5 := (zV5_s JN.1).1
  have n2 := JN.1.2.2.1.1
  obtain ⟨n, hn⟩ := Int.eq_ofNat_of_zero_le n2.1
  obtain ⟨x, hx⟩ := Int.eq_ofNat_of_zero_le (show 0 ≤ x1 * 3 + 7 by omega)
  have j13 := zj_j13 JN
  have wr := zwai_r (h := zha N) n
  have w64 := zpw6 (n := n) (by omega)
  have wp := (zsp_pc n (by omega) _ wr).1
  refine bX6_holdMorning_0 hG (s_cwait (P := N) (n := n) (d := d + 397) hG n5 j13.1 (fun i i0 i1 => (j13.2 i i0 i1).1) ⟨by rw [(zj_j11 JN).1]; exact hn, by omega⟩ (bX6_holdMorning_9 hG ⟨by omega, by omega, ?_⟩))
  rw [hx, j13.1]
  refine k_mor (d := d + 395) (N := N) (f := fun p => N 235 (74 + 5 * p)) (n := n) hG (by omega) n5 n N N (zwai (zha N) n) 0 x CN zfr_rfl hn (fun p p0 p1 => rfl) wr (by omega) (by omega) (by omega) (fun M' C' f' => bX11_morning_30 hG ?_)
  have x235 : ∀ i, 0 ≤ i → i < 156 → M' 235 i = N 235 i := fun i i0 i1 => (zfr_sm (S := [(235, 0, 156)]) f' (by decide)) 235 i (zhit_at 0 rfl ⟨i0, i1⟩)
  have hz : zha M' = zha N := funext fun p => zha_e n5 x235 p
  refine bX12_morning_0 hG ⟨fun _ => s_mwait (d := d + 398) (n := n) hG (by rw [x235 5 (by decide) (by decide)]; exact n5) ⟨by rw [x235 2 (by decide) (by decide)]; exact hn, by omega⟩ ?_, fun z => absurd q z⟩
  rw [hz]
  refine bX12_morning_18 hG ⟨by omega, by omega, ?_⟩
  rw [show 3 * x1 + 7 = (x : Int) by omega]
  refine m_mor (d := d + 389) (X0 := M') (f := fun p => N 235 (74 + 5 * p)) (n := n) hG (by omega) n5 n N M' (zwai (zha N) n) x 0 JN (zfr_sub f' (fun t ht => List.mem_append_right _ ht)) zfr_rfl hn (fun p p0 p1 => rfl) wr (by omega) (by omega) (by omega) (fun X' a1 a2 => ⟨rfl, ?_⟩)
  obtain ⟨JX, vX⟩ := J_both C' f' a1 a2
  exact zJn_tr v10 JX vX
end PY
