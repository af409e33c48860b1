section PM2
variable {G : zG} {d : Nat} {M P : zM} {Q : zV → zM → Prop}
theorem zcq_set {a i v : Int} (h : zcq P M) : zcq (zset P a i v) (zset M a i v) := fun x hx => by
  funext y
  unfold zset
  rw [h x hx]
theorem zcq_md {a i v : Int} (h : zcq P M) (ha : 234 ≤ a) : zcq (zset P a i v) M := fun x hx => by rw [zset_off (by omega)]; exact h x hx
theorem zmq_set {X : zM} {a i v : Int} (h : zmq P X) : zmq (zset P a i v) (zset X a i v) := fun x y hx hn => by
  unfold zset
  split
  · rfl
  · exact h x y hx hn
theorem zmq_cl {X : zM} {a i v : Int} (h : zmq P X) (ha : a ≤ 233) : zmq (zset P a i v) X := fun x y hx hn => by rw [zset_off (by omega)]; exact h x y hx hn
theorem zmq_clr {X : zM} {a : Int} {f : Int → Int} (h : zmq P X) (ha : a ≤ 233) : zmq (zrow P a f) X := fun x y hx hn => by rw [zrow_off (by omega)]; exact h x y hx hn
theorem zcz_set {X X' : zM} {a i v : Int} (h : zcz X X') (ha : 234 ≤ a) : zcz X (zset X' a i v) := fun x y hx hn => by rw [zset_off (by omega)]; exact h x y hx hn
/-- what stays when a clause has been played -/
def zS0 : List (Int × Int × Int) := [(235, 0, 1), (235, 6, 7), (240, 0, 3556), (246, 0, 12), (247, 0, 2880)]
def zpe (P P' : zM) : Prop := P' 235 6 = P 235 6 ∧ (∀ i, 0 ≤ i → i < 3556 → P' 240 i = P 240 i) ∧ P 235 0 ≤ P' 235 0 ∧ ∀ q, 0 ≤ q → q < P 235 0 → P' 246 q = P 246 q ∧ ∀ i, 0 ≤ i → i < 240 → P' 247 (240 * q + i) = P 247 (240 * q + i)
theorem zpe_rf : zpe P P := ⟨rfl, fun _ _ _ => rfl, Int.le_refl _, fun _ _ _ => ⟨rfl, fun _ _ _ => rfl⟩⟩
theorem zpe_tr {P1 P2 : zM} (h1 : zpe P P1) (h2 : zpe P1 P2) : zpe P P2 := ⟨h2.1.trans h1.1, fun i i0 i1 => (h2.2.1 i i0 i1).trans (h1.2.1 i i0 i1), Int.le_trans h1.2.2.1 h2.2.2.1, fun q q0 q1 => by
  have a := h1.2.2.2 q q0 q1
  have b := h2.2.2.2 q q0 (by have := h1.2.2.1; omega)
  exact ⟨b.1.trans a.1, fun i i0 i1 => (b.2 i i0 i1).trans (a.2 i i0 i1)⟩⟩
theorem zpe_s {P' : zM} (n12 : P 235 0 ≤ 12) (h : zsm zS0 P P') : zpe P P' :=
  ⟨h 235 6 (zhit_at 1 rfl (by decide)), fun i i0 i1 => h 240 i (zhit_at 2 rfl ⟨i0, i1⟩), by rw [h 235 0 (zhit_at 0 rfl (by decide))]; exact Int.le_refl _, fun q q0 q1 => ⟨h 246 q (zhit_at 3 rfl ⟨q0, by omega⟩), fun i i0 i1 => h 247 _ (zhit_at 4 rfl ⟨by omega, by omega⟩)⟩⟩
theorem zpe_f {P' : zM} {l : List (Int × Int × Int)} (n12 : P 235 0 ≤ 12) (hf : zfr l P P') (hd : zdj zS0 l = true) (h2 : zdj [(2, 10, 11)] l = true) : zpe P P' ∧ P' 2 10 ≤ P 2 10 + 1 :=
  ⟨zpe_s n12 (zfr_sm hf hd), by rw [(zfr_sm hf h2) 2 10 (zhit_at 0 rfl (by decide))]; omega⟩
/-- the model's own way from P to P' -/
def zmr (G : zG) (P P' : zM) (mm : zMt) (lm : List zV) (a : Int) : Prop := ∀ (d : Nat) (X : zM) (Q : zV → zM → Prop), zpq P X → (∀ X', zmq P' X' → zcz X X' → Q (0, a) X') → Y G (d + 12) mm 0 lm [] X Q
/-- the model's rows are left alone -/
def zcm (M M' : zM) : Prop := ∀ a i, 234 ≤ a → 0 ≤ i → i < 1000000 → M' a i = M a i
theorem zcm_rf : zcm M M := fun _ _ _ _ _ => rfl
theorem zcm_tr {M1 M2 : zM} (h1 : zcm M M1) (h2 : zcm M1 M2) : zcm M M2 := fun a i ha i0 i1 => (h2 a i ha i0 i1).trans (h1 a i ha i0 i1)
theorem zcm_set {M1 : zM} {a i v : Int} (h : zcm M M1) (ha : a ≤ 233) : zcm M (zset M1 a i v) := fun x y hx y0 y1 => by rw [zset_off (by omega)]; exact h x y hx y0 y1
theorem zcm_row {M1 : zM} {a : Int} {f : Int → Int} (h : zcm M M1) (ha : a ≤ 233) : zcm M (zrow M1 a f) := fun x y hx y0 y1 => by rw [zrow_off (by omega)]; exact h x y hx y0 y1
theorem zcm_f {M1 : zM} {l : List (Int × Int × Int)} (h : zfr l M M1) (hl : ∀ t ∈ l, t.1 ≤ 233) : zcm M M1 := fun a i ha i0 i1 => h a i (by
  rintro (z | z | ⟨t, ht, z1, z2, z3⟩)
  · omega
  · omega
  · have := hl t ht; omega)
def zkr (G : zG) (P M : zM) (mm : zMt) (lm : List zV) (R : Int → Prop) (Q : zV → zM → Prop) : Prop := ∀ (M' P' : zM) (a : Int), R a → zcm M M' → zcq P' M' → zJ P' → zpe P P' ∧ P' 2 10 ≤ P 2 10 + 1 → zmr G P P' mm lm a → Q (0, a) M'
abbrev zRb : Int → Prop := fun a => 0 ≤ a ∧ a ≤ 1
abbrev zRi : Int → Prop := fun a => -1 ≤ a
theorem zkr_no {mm : zMt} {lm : List zV} {R : Int → Prop} {a : Int} (hJ : zJ P) (hq : zcq P M) (h : zkr G P M mm lm R Q) (hR : R a) (hm : zmr G P P mm lm a) : Q (0, a) M := h M P a hR zcm_rf hq hJ ⟨zpe_rf, by omega⟩ hm
theorem k_thing (hG : zP G) (hJ : zJ P) (hq : zcq P M) {x1 x2 : Int} (h : zkr G P M mX12_thing [(2, 234), (0, x1), (0, x2)] zRb Q) : Y G (d + 1) mX11_thing 0 [(2, 1), (0, x1), (0, x2)] [] M Q := by
  refine bX11_thing_0 hG ⟨fun q1 => ⟨fun q2 => ⟨by omega, ?_⟩, fun q2 => ?_⟩, fun q1 => ?_⟩
  · have hf : zfr [(3, 0, 4), (235, 10, 14)] P (zset (zset P 3 x1 x2) 235 (10 + x1) x2) := zfr_set (zfr_set zfr_rfl (zhit_at 0 rfl ⟨q1.1, by omega⟩)) (zhit_at 1 rfl ⟨by omega, by omega⟩)
    exact h _ _ 1 (by decide) (zcm_set zcm_rf (by decide)) (zcq_md (zcq_set hq) (by decide)) (J_thing hJ q1 q2).1 (zpe_f hJ.1.1.2 hf (by decide) (by decide)) (fun d X Q hX hh => bX12_thing_0 hG ⟨fun _ => ⟨fun _ => ⟨by omega, by omega, hh _ (zmq_set (zmq_cl hX.1 (by decide))) (zcz_set zcz_rf (by decide))⟩, fun z => absurd q2 z⟩, fun z => absurd q1 z⟩)
  · exact zkr_no hJ hq h (by decide) (fun d X Q hX hh => bX12_thing_0 hG ⟨fun _ => ⟨fun z => absurd z q2, fun _ => hh X hX.1 zcz_rf⟩, fun z => absurd q1 z⟩)
  · exact zkr_no hJ hq h (by decide) (fun d X Q hX hh => bX12_thing_0 hG ⟨fun z => absurd z q1, fun _ => hh X hX.1 zcz_rf⟩)
theorem k_equal (hG : zP G) (hJ : zJ P) (hq : zcq P M) {x1 : Int} (h : zkr G P M mX12_equalities [(2, 234), (0, x1)] zRb Q) : Y G (d + 2) mX11_equalities 0 [(2, 1), (0, x1)] [] M Q := by
  refine bX11_equalities_0 hG ⟨fun q1 => ?_, fun q1 => ?_⟩
  · have hf : zfr [(19, 9, 10), (19, 13, 14), (235, 4, 5)] P (zset (zset (zset P 19 9 x1) 19 13 0) 235 4 x1) := zfr_set (zfr_set (zfr_set zfr_rfl (zhit_at 0 rfl ⟨by decide, by decide⟩)) (zhit_at 1 rfl ⟨by decide, by decide⟩)) (zhit_at 2 rfl ⟨by decide, by decide⟩)
    exact h _ _ 1 (by decide) (zcm_set (zcm_set zcm_rf (by decide)) (by decide)) (zcq_md (zcq_set (zcq_set hq)) (by decide)) (J_equalities hJ q1).1 (zpe_f hJ.1.1.2 hf (by decide) (by decide)) (fun d X Q hX hh => bX12_equalities_0 hG ⟨fun _ => hh _ (zmq_set (zmq_cl (zmq_cl hX.1 (by decide)) (by decide))) (zcz_set zcz_rf (by decide)), fun z => absurd q1 z⟩)
  · exact zkr_no hJ hq h (by decide) (fun d X Q hX hh => bX12_equalities_0 hG ⟨fun z => absurd z q1, fun _ => hh X hX.1 zcz_rf⟩)
theorem k_answer (hG : zP G) (hJ : zJ P) (hq : zcq P M) {x1 : Int} (h : zkr G P M mX12_answer [(2, 234), (0, x1)] zRb Q) : Y G (d + 2) mX11_answer 0 [(2, 1), (0, x1)] [] M Q := by
  refine bX11_answer_0 hG ⟨fun q1 => ?_, fun q1 => ?_⟩
  · have hf : zfr [(157, 6, 7), (235, 3, 4)] P (zset (zset P 157 6 x1) 235 3 x1) := zfr_set (zfr_set zfr_rfl (zhit_at 0 rfl ⟨by decide, by decide⟩)) (zhit_at 1 rfl ⟨by decide, by decide⟩)
    exact h _ _ 1 (by decide) (zcm_set zcm_rf (by decide)) (zcq_md (zcq_set hq) (by decide)) (J_answer hJ q1).1 (zpe_f hJ.1.1.2 hf (by decide) (by decide)) (fun d X Q hX hh => bX12_answer_0 hG ⟨fun _ => hh _ (zmq_set (zmq_cl hX.1 (by decide))) (zcz_set zcz_rf (by decide)), fun z => absurd q1 z⟩)
  · exact zkr_no hJ hq h (by decide) (fun d X Q hX hh => bX12_answer_0 hG ⟨fun z => absurd z q1, fun _ => hh X hX.1 zcz_rf⟩)
theorem k_pupil (hG : zP G) (hJ : zJ P) (hq : zcq P M) {x1 x2 x3 x4 x5 : Int} (h : zkr G P M mX12_pupil [(2, 234), (0, x1), (0, x2), (0, x3), (0, x4), (0, x5), (9, 0)] zRi Q) : Y G (d + 3) mX11_pupil 0 [(2, 1), (0, x1), (0, x2), (0, x3), (0, x4), (0, x5), (9, 0)] [] M Q := by
  have hU : M 157 5 = P 235 2 := by rw [hq 157 (by decide)]; exact (zj_j11 hJ).1
  have hV2 := hJ.1.2.2.1.1
  have no : ¬ ((1 ≤ x1 ∧ x1 ≤ 99) ∧ (0 ≤ x2 ∧ x2 ≤ 32767) ∧ (0 ≤ x3 ∧ x3 ≤ 99) ∧ (0 ≤ x4 ∧ x4 ≤ 8) ∧ (1 ≤ x5 ∧ x5 ≤ 16) ∧ ¬ P 235 2 = 6) → Q (0, -1) M := fun z => zkr_no hJ hq h (by decide) (fun d X Q hX hh => by
    have e2 := zpq_235 hX 2 (by decide) (by decide)
    refine bX12_pupil_0 hG ⟨fun a => ⟨fun b => ⟨fun c => ⟨fun f => ⟨fun g => ⟨fun h => absurd ⟨a, b, c, f, g, by omega⟩ z, fun _ => ?_⟩, fun _ => ?_⟩, fun _ => ?_⟩, fun _ => ?_⟩, fun _ => ?_⟩, fun _ => ?_⟩
    all_goals first | exact hh X hX.1 zcz_rf | exact bX12_pupil_51 hG (hh X hX.1 zcz_rf))
  refine bX11_pupil_0 hG ⟨fun a => ⟨fun b => ⟨fun c => ⟨fun f => ⟨fun g => ?_, fun z => ?_⟩, fun z => ?_⟩, fun z => ?_⟩, fun z => ?_⟩, fun z => ?_⟩
  · refine bX6_addPupil_0 hG ⟨fun hh => ⟨by omega, by omega, by omega, by omega, by omega, by omega, by omega, ?_⟩, fun hh => ?_⟩
    · refine bX11_pupil_79 hG ?_
      rw [hU] at hh ⊢
      have J := (J_pupil hJ (x1 := x1) (x2 := x2) (x3 := x3) (x4 := x4) (x5 := x5) (by omega) a b c f g).1
      have hf : zfr [(158, 0, 6), (159, 0, 6), (160, 0, 6), (161, 0, 6), (162, 0, 6), (157, 5, 6), (235, 74, 104), (235, 2, 3)] P (zset (zset (zset (zset (zset (zset (zset (zset (zset (zset (zset (zset P 158 (P 235 2) x1) 159 (P 235 2) x2) 160 (P 235 2) x3) 161 (P 235 2) x4) 162 (P 235 2) x5) 157 5 ((P 235 2) + 1)) 235 (74 + 5 * (P 235 2)) x1) 235 (74 + 5 * (P 235 2) + 1) x2) 235 (74 + 5 * (P 235 2) + 2) x3) 235 (74 + 5 * (P 235 2) + 3) x4) 235 (74 + 5 * (P 235 2) + 4) x5) 235 2 ((P 235 2) + 1)) := zfr_set (zfr_set (zfr_set (zfr_set (zfr_set (zfr_set (zfr_set (zfr_set (zfr_set (zfr_set (zfr_set (zfr_set zfr_rfl (zhit_at 0 rfl (by omega))) (zhit_at 1 rfl (by omega))) (zhit_at 2 rfl (by omega))) (zhit_at 3 rfl (by omega))) (zhit_at 4 rfl (by omega))) (zhit_at 5 rfl (by decide))) (zhit_at 6 rfl (by omega))) (zhit_at 6 rfl (by omega))) (zhit_at 6 rfl (by omega))) (zhit_at 6 rfl (by omega))) (zhit_at 6 rfl (by omega))) (zhit_at 7 rfl (by decide))
      refine h _ _ _ (show -1 ≤ P 235 2 + 1 - 1 by omega) (zcm_set (zcm_set (zcm_set (zcm_set (zcm_set (zcm_set zcm_rf (by decide)) (by decide)) (by decide)) (by decide)) (by decide)) (by decide)) (zcq_md (zcq_md (zcq_md (zcq_md (zcq_md (zcq_md (zcq_set (zcq_set (zcq_set (zcq_set (zcq_set (zcq_set hq)))))) (by decide)) (by decide)) (by decide)) (by decide)) (by decide)) (by decide)) J (zpe_f hJ.1.1.2 hf (by decide) (by decide)) (fun d X Q hX hh => ?_)
      have e2 := zpq_235 hX 2 (by decide) (by decide)
      refine bX12_pupil_0 hG ⟨fun _ => ⟨fun _ => ⟨fun _ => ⟨fun _ => ⟨fun _ => ⟨fun _ => ⟨by omega, by omega, by omega, by omega, by omega, by omega, by omega, by omega, by omega, by omega, by omega, by omega, by omega, by omega, by omega, by omega, by omega, by omega, ?_⟩, fun z => absurd z (by omega)⟩, fun z => absurd g z⟩, fun z => absurd f z⟩, fun z => absurd c z⟩, fun z => absurd b z⟩, fun z => absurd a z⟩
      rw [e2]
      exact hh _ (zmq_set (zmq_set (zmq_set (zmq_set (zmq_set (zmq_set (zmq_cl (zmq_cl (zmq_cl (zmq_cl (zmq_cl (zmq_cl hX.1 (by decide)) (by decide)) (by decide)) (by decide)) (by decide)) (by decide)))))))) (zcz_set (zcz_set (zcz_set (zcz_set (zcz_set (zcz_set zcz_rf (by decide)) (by decide)) (by decide)) (by decide)) (by decide)) (by decide))
    · exact bX11_pupil_79 hG (no (by omega))
  · exact bX11_pupil_57 hG (no (fun q => z q.2.2.2.2.1))
  · exact bX11_pupil_57 hG (no (fun q => z q.2.2.2.1))
  · exact bX11_pupil_57 hG (no (fun q => z q.2.2.1))
  · exact bX11_pupil_57 hG (no (fun q => z q.2.1))
  · exact bX11_pupil_57 hG (no (fun q => z q.1))
theorem J_per (hJ : zJ M) {x1 x2 x3 : Int} (hg : zgp (M 235 1) x1 x2 x3) {T K : Int → Int} (hT : zR 8 (M 235 1 + 1) 8 (zpw 8) T (zmB 8 (M 235 1 + 1) (zk0 ((zset (zset (zset (zset (M) 235 (14 + 3 * M 235 1) x1) 235 (14 + 3 * M 235 1 + 1) x2) 235 (14 + 3 * M 235 1 + 2) x3) 235 1 (M 235 1 + 1)) 235)))) (hK : ∀ p, 0 ≤ p → p < M 235 1 + 1 → K p = zch ((zset (zset (zset (zset (M) 235 (14 + 3 * M 235 1) x1) 235 (14 + 3 * M 235 1 + 1) x2) 235 (14 + 3 * M 235 1 + 2) x3) 235 1 (M 235 1 + 1)) 235) p (M 235 1 + 1).toNat) : zJn M (zset (zset (zset (zset (zset (zrow (zrow (zset (zset (zset (zset M 4 (M 235 1) x1) 5 (M 235 1) x2) 6 (M 235 1) x3) 2 4 (M 235 1 + 1)) 10 K) 8 T) 2 10 (M 2 10 + 1)) 235 (14 + 3 * M 235 1) x1) 235 (14 + 3 * M 235 1 + 1) x2) 235 (14 + 3 * M 235 1 + 2) x3) 235 1 (M 235 1 + 1)) := by
  have o := hJ.2.2.2.1
  have hv0 := hJ.2.2.2.2.2.2.2.2.2.2.2.2.2.2.2.2.2.2.2.2.2.2.2.1
  have hn := hJ.1.2.1.1
  have hV1 := hJ.1.2.1.2
  generalize hA : (zset (zset (zset (zset M 235 (14 + 3 * M 235 1) x1) 235 (14 + 3 * M 235 1 + 1) x2) 235 (14 + 3 * M 235 1 + 2) x3) 235 1 (M 235 1 + 1)) 235 = A at hT hK
  have a0 : ∀ i, (¬ i = 1 ∧ ¬ (14 + 3 * M 235 1 ≤ i ∧ i < 17 + 3 * M 235 1)) → A i = M 235 i := fun i hi => by subst hA; simp only [zset_ap, zrow_ap, Int.reduceEq, ↓reduceIte] <;> (repeat' split) <;> first | rfl | omega
  have w1 : (zset (zrow (zrow (zset (zset (zset (zset M 4 (M 235 1) x1) 5 (M 235 1) x2) 6 (M 235 1) x3) 2 4 (M 235 1 + 1)) 10 K) 8 T) 2 10 (M 2 10 + 1)) 235 = M 235 := by
    funext i; simp only [zset_ap, zrow_ap, Int.reduceEq, ↓reduceIte] <;> (repeat' split) <;> first | rfl | omega
  generalize hM1 : zset (zrow (zrow (zset (zset (zset (zset M 4 (M 235 1) x1) 5 (M 235 1) x2) 6 (M 235 1) x3) 2 4 (M 235 1 + 1)) 10 K) 8 T) 2 10 (M 2 10 + 1) = M1 at w1 ⊢
  obtain ⟨a, b, c, f, g⟩ := id hg
  have hf0 : zfr [(4, 0, 8), (5, 0, 8), (6, 0, 8), (2, 4, 5), (2, 10, 11), (8, 0, 1000000), (10, 0, 1000000), (235, 14, 38), (235, 1, 2)] M M1 := by
    subst hM1
    exact zfr_set (zfr_row (zfr_row (zfr_set (zfr_set (zfr_set (zfr_set zfr_rfl (zhit_at 0 rfl ⟨by omega, by omega⟩)) (zhit_at 1 rfl ⟨by omega, by omega⟩)) (zhit_at 2 rfl ⟨by omega, by omega⟩)) (zhit_at 3 rfl ⟨by decide, by decide⟩)) 6 rfl) 5 rfl) (zhit_at 4 rfl ⟨by decide, by decide⟩)
  have ea : (zset (zset (zset (zset M1 235 (14 + 3 * M 235 1) x1) 235 (14 + 3 * M 235 1 + 1) x2) 235 (14 + 3 * M 235 1 + 2) x3) 235 1 (M 235 1 + 1)) 235 = A := by
    subst hA
    funext i
    simp only [zset_ap, ↓reduceIte, w1]
  have hf : zfr [(4, 0, 8), (5, 0, 8), (6, 0, 8), (2, 4, 5), (2, 10, 11), (8, 0, 1000000), (10, 0, 1000000), (235, 14, 38), (235, 1, 2)] M (zset (zset (zset (zset M1 235 (14 + 3 * M 235 1) x1) 235 (14 + 3 * M 235 1 + 1) x2) 235 (14 + 3 * M 235 1 + 2) x3) 235 1 (M 235 1 + 1)) := zfr_set (zfr_set (zfr_set (zfr_set hf0 (zhit_at 7 rfl ⟨by omega, by omega⟩)) (zhit_at 7 rfl ⟨by omega, by omega⟩)) (zhit_at 7 rfl ⟨by omega, by omega⟩)) (zhit_at 8 rfl ⟨by decide, by decide⟩)
  have off : ∀ a i, a ≠ 235 → (zset (zset (zset (zset M1 235 (14 + 3 * M 235 1) x1) 235 (14 + 3 * M 235 1 + 1) x2) 235 (14 + 3 * M 235 1 + 2) x3) 235 1 (M 235 1 + 1)) a i = M1 a i := fun a i ha => by simp only [zset_ap, if_neg ha]
  generalize zset (zset (zset (zset M1 235 (14 + 3 * M 235 1) x1) 235 (14 + 3 * M 235 1 + 1) x2) 235 (14 + 3 * M 235 1 + 2) x3) 235 1 (M 235 1 + 1) = M2 at ea hf off ⊢
  have b1 : A 1 = M 235 1 + 1 := by subst hA; simp only [zset_ap, zrow_ap, Int.reduceEq, ↓reduceIte] <;> (repeat' split) <;> first | rfl | omega
  refine J_person hJ hf hg (fun i hi => ?_) ?_ ?_ ?_ ?_ ?_ (fun i => ?_) (fun i => ?_) (fun i => ?_) (fun i => ?_) ⟨fun x y x0 xn y0 yn => ?_, fun p p0 pn => ?_⟩ ?_
  · rw [ea]; exact a0 i ⟨by omega, by omega⟩
  · rw [ea]; exact b1
  · rw [off _ _ (by decide)]; subst hM1; simp only [zset_ap, zrow_ap, Int.reduceEq, ↓reduceIte] <;> (repeat' split) <;> first | rfl | omega
  · rw [ea]; subst hA; simp only [zset_ap, zrow_ap, Int.reduceEq, ↓reduceIte] <;> (repeat' split) <;> first | rfl | omega
  · rw [ea]; subst hA; simp only [zset_ap, zrow_ap, Int.reduceEq, ↓reduceIte] <;> (repeat' split) <;> first | rfl | omega
  · rw [ea]; subst hA; simp only [zset_ap, zrow_ap, Int.reduceEq, ↓reduceIte] <;> (repeat' split) <;> first | rfl | omega
  · rw [off _ _ (by decide)]; subst hM1; simp only [zset_ap, zrow_ap, Int.reduceEq, ↓reduceIte] <;> (repeat' split) <;> first | rfl | omega
  · rw [off _ _ (by decide)]; subst hM1; simp only [zset_ap, zrow_ap, Int.reduceEq, ↓reduceIte] <;> (repeat' split) <;> first | rfl | omega
  · rw [off _ _ (by decide)]; subst hM1; simp only [zset_ap, zrow_ap, Int.reduceEq, ↓reduceIte] <;> (repeat' split) <;> first | rfl | omega
  · rw [off _ _ (by decide)]; subst hM1; simp only [zset_ap, zrow_ap, Int.reduceEq, ↓reduceIte] <;> (repeat' split) <;> first | rfl | omega
  · rw [ea, b1] at xn yn ⊢
    rw [off _ _ (by decide), show M1 8 (x * 8 + y) = T (x * 8 + y) by subst hM1; simp only [zset_ap, zrow_ap, Int.reduceEq, ↓reduceIte] <;> (repeat' split) <;> first | rfl | omega]
    exact ((hT x y x0 (by omega) y0 (by omega)).1 xn yn).1
  · rw [ea, b1] at pn ⊢
    rw [off _ _ (by decide), show M1 10 p = K p by subst hM1; simp only [zset_ap, zrow_ap, Int.reduceEq, ↓reduceIte] <;> (repeat' split) <;> first | rfl | omega]
    exact hK p p0 pn
  · rw [off _ _ (by decide)]; subst hM1; simp only [zset_ap, zrow_ap, Int.reduceEq, ↓reduceIte] <;> (repeat' split) <;> first | rfl | omega
theorem J_rod (hJ : zJ M) {x1 x2 x3 : Int} (hg : zgr x1 x2 x3) {T : Int → Int} (hT : zR 6 6 6 (zpw 6) T (zmB 6 6 (zw0 ((zset (zset (M) 235 (38 + 6 * x1 + x2) x3) 235 (38 + 6 * x2 + x1) x3) 235)))) : zJn M (zset (zset (zset (zrow (zset (zset M 7 (x1 * 6 + x2) x3) 7 (x2 * 6 + x1) x3) 9 T) 2 10 (M 2 10 + 1)) 235 (38 + 6 * x1 + x2) x3) 235 (38 + 6 * x2 + x1) x3) := by
  have o := hJ.2.2.2.2.1
  have hv0 := hJ.2.2.2.2.2.2.2.2.2.2.2.2.2.2.2.2.2.2.2.2.2.2.2.1
  have hVr := hJ.1.2.2.2.2.2.2.2.2.2.2
  generalize hA : (zset (zset M 235 (38 + 6 * x1 + x2) x3) 235 (38 + 6 * x2 + x1) x3) 235 = A at hT
  have hg' := hg
  obtain ⟨a, b, c, f⟩ := hg'
  have w1 : (zset (zrow (zset (zset M 7 (x1 * 6 + x2) x3) 7 (x2 * 6 + x1) x3) 9 T) 2 10 (M 2 10 + 1)) 235 = M 235 := by
    funext i; simp only [zset_ap, zrow_ap, Int.reduceEq, ↓reduceIte] <;> (repeat' split) <;> first | rfl | omega
  generalize hM1 : zset (zrow (zset (zset M 7 (x1 * 6 + x2) x3) 7 (x2 * 6 + x1) x3) 9 T) 2 10 (M 2 10 + 1) = M1 at w1 ⊢
  have hf0 : zfr [(7, 0, 36), (9, 0, 1000000), (2, 10, 11), (235, 38, 74)] M M1 := by
    subst hM1
    exact zfr_set (zfr_row (zfr_set (zfr_set zfr_rfl (zhit_at 0 rfl ⟨by omega, by omega⟩)) (zhit_at 0 rfl ⟨by omega, by omega⟩)) 1 rfl) (zhit_at 2 rfl ⟨by decide, by decide⟩)
  have ea : (zset (zset M1 235 (38 + 6 * x1 + x2) x3) 235 (38 + 6 * x2 + x1) x3) 235 = A := by
    subst hA
    funext i
    simp only [zset_ap, ↓reduceIte, w1]
  have hf : zfr [(7, 0, 36), (9, 0, 1000000), (2, 10, 11), (235, 38, 74)] M (zset (zset M1 235 (38 + 6 * x1 + x2) x3) 235 (38 + 6 * x2 + x1) x3) := zfr_set (zfr_set hf0 (zhit_at 3 rfl ⟨by omega, by omega⟩)) (zhit_at 3 rfl ⟨by omega, by omega⟩)
  have off : ∀ a i, a ≠ 235 → (zset (zset M1 235 (38 + 6 * x1 + x2) x3) 235 (38 + 6 * x2 + x1) x3) a i = M1 a i := fun a i ha => by simp only [zset_ap, if_neg ha]
  generalize zset (zset M1 235 (38 + 6 * x1 + x2) x3) 235 (38 + 6 * x2 + x1) x3 = M2 at ea hf off ⊢
  refine J_road hJ hf hg (fun i hi => ?_) (fun k k0 k1 => ?_) (fun k k0 k1 => ?_) (fun x y x0 x1' y0 y1 => ?_) ?_
  · rw [ea]; subst hA; simp only [zset_ap, zrow_ap, Int.reduceEq, ↓reduceIte] <;> (repeat' split) <;> first | rfl | omega
  · rw [ea]; subst hA; simp only [zset_ap, zrow_ap, Int.reduceEq, ↓reduceIte] <;> (repeat' split) <;> first | rfl | omega
  · rw [off _ _ (by decide)]; subst hM1; simp only [zset_ap, zrow_ap, Int.reduceEq, ↓reduceIte] <;> (repeat' split) <;> first | rfl | omega
  · rw [ea, off _ _ (by decide), show M1 9 (x * 6 + y) = T (x * 6 + y) by subst hM1; simp only [zset_ap, zrow_ap, Int.reduceEq, ↓reduceIte] <;> (repeat' split) <;> first | rfl | omega]
    exact ((hT x y x0 x1' y0 y1).1 x1' y1).1
  · rw [off _ _ (by decide)]; subst hM1; simp only [zset_ap, zrow_ap, Int.reduceEq, ↓reduceIte] <;> (repeat' split) <;> first | rfl | omega
end PM2
