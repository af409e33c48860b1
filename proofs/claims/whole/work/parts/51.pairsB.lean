section PB
variable {G : zG} {d : Nat} {M : zM}
theorem pr_about (hG : zP G) (hJ : zJ M) {x1 : Int} : zPr G d mX11_about mX12_about [(2, 1), (0, x1)] [(2, 234), (0, x1)] M := by
  have hP := hJ.2.2.2.1
  have hU := hJ.2.2.2.2.2.2.2.2.2.2.2.2.1
  have hT := hJ.2.2.1
  have hV1 := hJ.1.2.1.1
  have hV2 := hJ.1.2.2.1.1
  have hP1 := hP.1
  have hU1 := hU.1
  have low : x1 < 10 → ∀ v : Int, (0 ≤ x1 → x1 ≤ 8 → v = M 235 x1) → (x1 = 9 → v = M 234 5) → (x1 < 0 → v = -2000000) → Y G (d + 400) mX12_about 0 [(2, 234), (0, x1)] [] M (fun r2 M2 => r2 = (0, v) ∧ zJn M M2) := fun q v v1 v2 v3 => by
    refine bX12_about_0 hG ⟨fun r => absurd r (by omega), fun _ => ⟨by omega, fun r => absurd r (by omega), fun _ => ⟨by omega, fun r => absurd r (by omega), fun _ => ⟨by omega, fun r => absurd r (by omega), fun _ => ⟨fun r => ⟨by omega, by rw [v1 r.1 r.2], zJ_rf hJ⟩, fun r => ⟨fun r2 => ⟨by rw [v3 (by omega)], zJ_rf hJ⟩, fun r2 => ⟨by rw [v2 r2], zJ_rf hJ⟩⟩⟩⟩⟩⟩⟩
  refine bX11_about_0 hG ⟨fun q => ⟨fun q1 => ⟨by omega, by omega, ?_⟩, fun q1 => ⟨by omega, by omega, fun q2 => ⟨by omega, by omega, ?_⟩, fun q2 => ⟨by omega, by omega, fun q3 => ⟨by omega, by omega, ?_⟩, fun q3 => ⟨by omega, by omega, fun q4 => ⟨by omega, by omega, ?_⟩, fun q4 => ?_⟩⟩⟩⟩, fun q => ?_⟩
  · refine bX12_about_0 hG ⟨fun _ => ⟨by omega, by omega, by omega, by rw [hT (x1 - 10) (by omega) (by omega), show 10 + x1 - 10 = 10 + (x1 - 10) by omega], zJ_rf hJ⟩, fun r => absurd q1 r⟩
  · refine bX12_about_0 hG ⟨fun r => absurd r q1, fun _ => ⟨by omega, fun _ => ⟨by omega, by omega, by rw [(hU.2 (x1 - 20) (by omega) (by omega)).1, show 74 + 5 * (x1 - 20) + 0 = 74 + 5 * (x1 - 20) by omega], zJ_rf hJ⟩, fun r => absurd (by omega) r⟩⟩
  · refine bX12_about_0 hG ⟨fun r => absurd r q1, fun _ => ⟨by omega, fun r => absurd r (by omega), fun _ => ⟨by omega, fun _ => ⟨by omega, by omega, by omega, by omega, by rw [(hP.2 (x1 - 30) (by omega) (by omega)).1], zJ_rf hJ⟩, fun r => absurd (by omega) r⟩⟩⟩
  · refine bX12_about_0 hG ⟨fun r => absurd r q1, fun _ => ⟨by omega, fun r => absurd r (by omega), fun _ => ⟨by omega, fun r => absurd r (by omega), fun _ => ⟨by omega, fun _ => ⟨by omega, by omega, by rw [(hU.2 (x1 - 40) (by omega) (by omega)).2.1, show 74 + 5 * (x1 - 40) + 1 = 75 + 5 * (x1 - 40) by omega], zJ_rf hJ⟩, fun r => absurd (by omega) r⟩⟩⟩⟩
  · refine bX12_about_0 hG ⟨fun r => absurd r q1, fun _ => ⟨by omega, fun r => absurd r (by omega), fun _ => ⟨by omega, fun r => absurd r (by omega), fun _ => ⟨by omega, fun r => absurd r (by omega), fun _ => ⟨fun r => absurd r (by omega), fun r => ⟨fun r2 => ⟨rfl, zJ_rf hJ⟩, fun r2 => absurd r2 (by omega)⟩⟩⟩⟩⟩⟩
  · refine bX11_amountOf_0 hG ⟨fun r => ?_, fun r => ?_, fun r => ?_, fun r => ?_, fun r => ?_, fun r => ?_, fun r => ?_, fun r => ?_, fun r => ?_, fun r => ?_, fun r => ?_⟩
    · exact bX11_about_11 hG (low q _ (fun _ _ => by rw [r]; exact hJ.2.2.2.2.2.2.2.2.2.2.1.1) (fun z => absurd z (by omega)) (fun z => absurd z (by omega)))
    · exact bX11_about_11 hG (low q _ (fun _ _ => by rw [r]; exact hJ.2.2.2.1.1) (fun z => absurd z (by omega)) (fun z => absurd z (by omega)))
    · exact bX11_about_11 hG (low q _ (fun _ _ => by rw [r]; exact hJ.2.2.2.2.2.2.2.2.2.2.2.2.1.1) (fun z => absurd z (by omega)) (fun z => absurd z (by omega)))
    · exact bX11_about_11 hG (low q _ (fun _ _ => by rw [r]; exact hJ.2.2.2.2.2.2.2.2.2.2.2.2.2.1) (fun z => absurd z (by omega)) (fun z => absurd z (by omega)))
    · exact bX11_about_11 hG (low q _ (fun _ _ => by rw [r]; exact hJ.2.2.2.2.2.2.2.2.2.2.2.1) (fun z => absurd z (by omega)) (fun z => absurd z (by omega)))
    · exact bX11_about_11 hG (low q _ (fun _ _ => by rw [r]; exact hJ.2.2.2.2.2.2.2.2.2.2.2.2.2.2.1.1) (fun z => absurd z (by omega)) (fun z => absurd z (by omega)))
    · exact bX11_about_11 hG (low q _ (fun _ _ => by rw [r]; exact hJ.2.2.2.2.2.2.2.2.2.1) (fun z => absurd z (by omega)) (fun z => absurd z (by omega)))
    · exact bX11_about_11 hG (low q _ (fun _ _ => by rw [r]; exact hJ.2.2.2.2.2.2.2.2.2.2.2.2.2.2.2.1.1) (fun z => absurd z (by omega)) (fun z => absurd z (by omega)))
    · exact bX11_about_11 hG (low q _ (fun _ _ => by rw [r]; exact hJ.2.2.2.2.2.2.2.2.2.2.2.2.2.2.2.2.1.1) (fun z => absurd z (by omega)) (fun z => absurd z (by omega)))
    · exact bX11_about_11 hG (low q _ (fun _ _ => absurd r (by omega)) (fun _ => (hJ.2.2.2.2.2.2.2.1).1) (fun z => absurd z (by omega)))
    · exact bX11_about_11 hG (low q _ (fun _ _ => absurd r (by omega)) (fun z => absurd r (by omega)) (fun _ => rfl))

def zlck (w g dp l pw pn pd pl : Int) : Int :=
  let s0 := zand w (zxor pw (-1))
  let s1 := if pn < g then zor s0 32768 else s0
  let s2 := if pd < dp then zor s1 65536 else s1
  if pl < l then zor s2 131072 else s2
/-- what a pupil lacks, by the class's cells -/
def zlac (M : zM) (p q : Int) : Int := zlck (M 25 q) (M 26 q) (M 24 q) (M 23 q) (M 159 p) (M 160 p) (M 161 p) (M 162 p)
set_option maxHeartbeats 2000000 in
theorem s_lacking {Q : zV → zM → Prop} (hG : zP G) {x1 x2 : Int} (h1 : 0 ≤ x1 ∧ x1 < 6) (h2 : 0 ≤ x2 ∧ x2 < 12) (h : Q (0, zlac M x1 x2) M) : Y G d mX6_lacking 0 [(2, 157), (0, x1), (0, x2), (2, 19), (9, 0)] [] M Q := by
  unfold zlac zlck at h
  refine bX6_lacking_0 hG ⟨h2, h1, h2, h1, fun a => ⟨h2, h1, fun b => ⟨h2, h1, fun c => ?_, fun c => ?_⟩, fun b => ⟨h2, h1, fun c => ?_, fun c => ?_⟩⟩, fun a => ⟨h2, h1, fun b => ⟨h2, h1, fun c => ?_, fun c => ?_⟩, fun b => ⟨h2, h1, fun c => ?_, fun c => ?_⟩⟩⟩
  · simp only [if_neg (Int.not_lt.mpr a), if_neg (Int.not_lt.mpr b), if_neg (Int.not_lt.mpr c)] at h; exact h
  · simp only [if_neg (Int.not_lt.mpr a), if_neg (Int.not_lt.mpr b), if_pos c] at h; exact h
  · simp only [if_neg (Int.not_lt.mpr a), if_pos b, if_neg (Int.not_lt.mpr c)] at h; exact h
  · simp only [if_neg (Int.not_lt.mpr a), if_pos b, if_pos c] at h; exact h
  · simp only [if_pos a, if_neg (Int.not_lt.mpr b), if_neg (Int.not_lt.mpr c)] at h; exact h
  · simp only [if_pos a, if_neg (Int.not_lt.mpr b), if_pos c] at h; exact h
  · simp only [if_pos a, if_pos b, if_neg (Int.not_lt.mpr c)] at h; exact h
  · simp only [if_pos a, if_pos b, if_pos c] at h; exact h
/-- the same by the model's -/
def zmlac (M : zM) (p q : Int) : Int := zlck (M 248 (4 * q)) (M 248 (4 * q + 3)) (M 248 (4 * q + 1)) (M 248 (4 * q + 2)) (M 235 (74 + 5 * p + 1)) (M 235 (74 + 5 * p + 2)) (M 235 (74 + 5 * p + 3)) (M 235 (74 + 5 * p + 4))
set_option maxHeartbeats 4000000 in
theorem s_mlacks {Q : zV → zM → Prop} (hG : zP G) {x1 x2 : Int} (hb : (0 ≤ M 235 2 ∧ M 235 2 ≤ 6) ∧ 0 ≤ M 235 0 ∧ M 235 0 ≤ 12) (hy : (0 ≤ x1 ∧ x1 < M 235 2) ∧ 0 ≤ x2 ∧ x2 < M 235 0 → Q (0, zmlac M x1 x2) M) (hn : ¬ ((0 ≤ x1 ∧ x1 < M 235 2) ∧ 0 ≤ x2 ∧ x2 < M 235 0) → Q (0, -1) M) : Y G (d + 2) mX12_lacks 0 [(2, 234), (0, x1), (0, x2), (9, 0)] [] M Q := by
  unfold zmlac zlck at hy
  refine bX12_lacks_0 hG ⟨by omega, fun p1 => ⟨by omega, fun p2 => ⟨by omega, by omega, by omega, by omega, by omega, by omega, by omega, fun a => ⟨by omega, by omega, by omega, by omega, fun b => ⟨by omega, by omega, by omega, by omega, fun c => ?_, fun c => ?_⟩, fun b => ⟨by omega, by omega, by omega, by omega, fun c => ?_, fun c => ?_⟩⟩, fun a => ⟨by omega, by omega, by omega, by omega, fun b => ⟨by omega, by omega, by omega, by omega, fun c => ?_, fun c => ?_⟩, fun b => ⟨by omega, by omega, by omega, by omega, fun c => ?_, fun c => ?_⟩⟩⟩, fun p2 => hn (by omega)⟩, fun p1 => hn (by omega)⟩
  · simp only [if_neg (Int.not_lt.mpr a), if_neg (Int.not_lt.mpr b), if_neg (Int.not_lt.mpr c)] at hy; exact hy ⟨p1, p2⟩
  · simp only [if_neg (Int.not_lt.mpr a), if_neg (Int.not_lt.mpr b), if_pos c] at hy; exact hy ⟨p1, p2⟩
  · simp only [if_neg (Int.not_lt.mpr a), if_pos b, if_neg (Int.not_lt.mpr c)] at hy; exact hy ⟨p1, p2⟩
  · simp only [if_neg (Int.not_lt.mpr a), if_pos b, if_pos c] at hy; exact hy ⟨p1, p2⟩
  · simp only [if_pos a, if_neg (Int.not_lt.mpr b), if_neg (Int.not_lt.mpr c)] at hy; exact hy ⟨p1, p2⟩
  · simp only [if_pos a, if_neg (Int.not_lt.mpr b), if_pos c] at hy; exact hy ⟨p1, p2⟩
  · simp only [if_pos a, if_pos b, if_neg (Int.not_lt.mpr c)] at hy; exact hy ⟨p1, p2⟩
  · simp only [if_pos a, if_pos b, if_pos c] at hy; exact hy ⟨p1, p2⟩
theorem zlac_eq (hJ : zJ M) {p q : Int} (hp : 0 ≤ p ∧ p < M 235 2) (hq : 0 ≤ q ∧ q < M 235 0) : zmlac M p q = zlac M p q := by
  have hU := (hJ.2.2.2.2.2.2.2.2.2.2.2.2.1).2 p hp.1 hp.2
  have hQ := ((hJ.2.2.2.2.2.2.2.2.2.2.1).2 q hq.1 hq.2).1
  unfold zmlac zlac
  rw [show 74 + 5 * p + 1 = 75 + 5 * p by omega, show 74 + 5 * p + 2 = 76 + 5 * p by omega, show 74 + 5 * p + 3 = 77 + 5 * p by omega, show 74 + 5 * p + 4 = 78 + 5 * p by omega, ← hU.2.1, ← hU.2.2.1, ← hU.2.2.2.1, ← hU.2.2.2.2, ← hQ.1, ← hQ.2.1, ← hQ.2.2.1, ← hQ.2.2.2]
theorem s_lacks {Q : zV → zM → Prop} (hG : zP G) {x1 x2 : Int} (hb : (0 ≤ M 157 5 ∧ M 157 5 ≤ 6) ∧ 0 ≤ M 19 8 ∧ M 19 8 ≤ 12) (hy : (0 ≤ x1 ∧ x1 < M 157 5) ∧ 0 ≤ x2 ∧ x2 < M 19 8 → Q (0, zlac M x1 x2) M) (hn : ¬ ((0 ≤ x1 ∧ x1 < M 157 5) ∧ 0 ≤ x2 ∧ x2 < M 19 8) → Q (0, -1) M) : Y G (d + 2) mX11_lacks 0 [(2, 1), (0, x1), (0, x2)] [] M Q :=
  bX11_lacks_0 hG ⟨by omega, fun p1 => ⟨by omega, fun p2 => s_lacking hG (by omega) (by omega) (bX11_lacks_29 hG (hy ⟨p1, p2⟩)), fun p2 => hn (by omega)⟩, fun p1 => hn (by omega)⟩
theorem pr_lacks (hG : zP G) (hJ : zJ M) {x1 x2 : Int} : zPr G d mX11_lacks mX12_lacks [(2, 1), (0, x1), (0, x2)] [(2, 234), (0, x1), (0, x2), (9, 0)] M := by
  have hU := (hJ.2.2.2.2.2.2.2.2.2.2.2.2.1).1
  have hQ := (hJ.2.2.2.2.2.2.2.2.2.2.1).1
  have hV2 := hJ.1.2.2.1.1
  have hV0 := hJ.1.1
  unfold zV0 at hV0
  refine s_lacks hG (by omega) (fun q => ?_) (fun q => ?_)
  · exact s_mlacks hG (by omega) (fun r => ⟨by rw [zlac_eq hJ r.1 r.2], zJ_rf hJ⟩) (fun r => absurd (by omega) r)
  · exact s_mlacks hG (by omega) (fun r => absurd r (by omega)) (fun r => ⟨rfl, zJ_rf hJ⟩)

end PB
