/-- an entry of a node, or what stands for none -/
def znf (M : zM) (o k x dv : Int) : Int := if 0 ≤ x ∧ x < M o 8 then M (o + k) x else dv
def zby (M : zM) (p : Int) : Int := if 0 ≤ p ∧ p < M 13 1 ∧ p < 300 then M 14 p else -1
def zbm (M : zM) (k : Int) : Int := if k < M 234 5 then M 239 k else -1
section S1
variable {G : zG} {d : Nat} {M : zM} {Q : zV → zM → Prop}
theorem s_isPupil (hG : zP G) {x1 n : Int} (hx : M 157 5 = n) (hr : -1000 ≤ n ∧ n ≤ 1000) (h1 : 0 ≤ x1 ∧ x1 < n → Q (0, 1) M) (h0 : ¬ (0 ≤ x1 ∧ x1 < n) → Q (0, 0) M) : Y G (d + 1) mX11_isPupil 0 [(2, 1), (0, x1)] [] M Q :=
  bX11_isPupil_0 hG ⟨by omega, fun q => h1 (by omega), fun q => h0 (by omega)⟩
theorem s_isQuestion (hG : zP G) {x1 n : Int} (hx : M 19 8 = n) (hr : -1000 ≤ n ∧ n ≤ 1000) (h1 : 0 ≤ x1 ∧ x1 < n → Q (0, 1) M) (h0 : ¬ (0 ≤ x1 ∧ x1 < n) → Q (0, 0) M) : Y G (d + 1) mX11_isQuestion 0 [(2, 1), (0, x1)] [] M Q :=
  bX11_isQuestion_0 hG ⟨by omega, fun q => h1 (by omega), fun q => h0 (by omega)⟩
theorem s_misPupil (hG : zP G) {x1 n : Int} (hx : M 235 2 = n) (hr : -1000 ≤ n ∧ n ≤ 1000) (h1 : 0 ≤ x1 ∧ x1 < n → Q (0, 1) M) (h0 : ¬ (0 ≤ x1 ∧ x1 < n) → Q (0, 0) M) : Y G (d + 1) mX12_isPupil 0 [(2, 234), (0, x1)] [] M Q :=
  bX12_isPupil_0 hG ⟨by omega, fun q => h1 (by omega), fun q => h0 (by omega)⟩
theorem s_misQuestion (hG : zP G) {x1 n : Int} (hx : M 235 0 = n) (hr : -1000 ≤ n ∧ n ≤ 1000) (h1 : 0 ≤ x1 ∧ x1 < n → Q (0, 1) M) (h0 : ¬ (0 ≤ x1 ∧ x1 < n) → Q (0, 0) M) : Y G (d + 1) mX12_isQuestion 0 [(2, 234), (0, x1)] [] M Q :=
  bX12_isQuestion_0 hG ⟨by omega, fun q => h1 (by omega), fun q => h0 (by omega)⟩
theorem s_misPerson (hG : zP G) {x1 n : Int} (hx : M 235 1 = n) (hr : -1000 ≤ n ∧ n ≤ 1000) (h1 : 0 ≤ x1 ∧ x1 < n → Q (0, 1) M) (h0 : ¬ (0 ≤ x1 ∧ x1 < n) → Q (0, 0) M) : Y G (d + 1) mX12_isPerson 0 [(2, 234), (0, x1)] [] M Q :=
  bX12_isPerson_0 hG ⟨by omega, fun q => h1 (by omega), fun q => h0 (by omega)⟩
theorem s_pupilOf (hG : zP G) {x1 x2 v : Int} (hx : M 235 (74 + 5 * x1 + x2) = v) (hr : (0 ≤ x1 ∧ x1 < 6) ∧ 0 ≤ x2 ∧ x2 < 5) (h : Q (0, v) M) : Y G d mX12_pupilOf 0 [(2, 234), (0, x1), (0, x2)] [] M Q :=
  bX12_pupilOf_0 hG ⟨by omega, by omega, by omega, by omega, by rw [hx]; exact h⟩
theorem s_setEqualities (hG : zP G) {x1 : Int} (h : Q (9, 0) (zset (zset M 19 9 x1) 19 13 0)) : Y G d mX3_setEqualities 0 [(2, 19), (0, x1)] [] M Q := bX3_setEqualities_0 hG h
theorem s_forgetHeard (hG : zP G) (h : Q (9, 0) (zset (zset M 176 2 0) 176 11 0)) : Y G d mX0_forgetHeard 0 [(2, 176)] [] M Q := bX0_forgetHeard_0 hG h
theorem s_byteAt (hG : zP G) {x1 : Int} (h : Q (0, zby M x1) M) : Y G d mX8_byteAt 0 [(2, 13), (0, x1)] [] M Q := by
  unfold zby at h
  refine bX8_byteAt_0 hG ⟨fun q => ?_, fun q => ⟨fun q2 => ?_, fun q2 => ⟨fun q3 => ?_, fun q3 => ⟨⟨q, q3⟩, ?_⟩⟩⟩⟩
  · rw [if_neg (by omega)] at h; exact h
  · rw [if_neg (by omega)] at h; exact h
  · rw [if_neg (by omega)] at h; exact h
  · rw [if_pos ⟨q, q2, q3⟩] at h; exact h
theorem s_mbyteAt (hG : zP G) {x1 : Int} (hr : 0 ≤ x1 ∧ M 234 5 ≤ 300) (h : Q (0, zbm M x1) M) : Y G d mX12_byteAt 0 [(2, 234), (0, x1)] [] M Q := by
  unfold zbm at h
  refine bX12_byteAt_0 hG ⟨fun q => ?_, fun q => ⟨by omega, ?_⟩⟩
  · rw [if_neg (by omega)] at h; exact h
  · rw [if_pos q] at h; exact h
theorem s_kindOf (hG : zP G) {o x1 : Int} (ho : zND o) (hr : M o 8 ≤ 300) (h : Q (0, znf M o 1 x1 (-1)) M) : Y G d mX1_kindOf 0 [(2, o), (0, x1)] [] M Q := by
  unfold znf at h
  refine bX1_kindOf_0 hG ho ⟨fun q => ?_, fun q => ⟨fun q2 => ?_, fun q2 => ⟨by omega, ?_⟩⟩⟩
  · rw [if_neg (by omega)] at h; exact h
  · rw [if_neg (by omega)] at h; exact h
  · rw [if_pos ⟨q, q2⟩] at h; exact h
theorem s_valueOf (hG : zP G) {o x1 : Int} (ho : zND o) (hr : M o 8 ≤ 300) (h : Q (0, znf M o 2 x1 0) M) : Y G d mX1_valueOf 0 [(2, o), (0, x1)] [] M Q := by
  unfold znf at h
  refine bX1_valueOf_0 hG ho ⟨fun q => ?_, fun q => ⟨fun q2 => ?_, fun q2 => ⟨by omega, ?_⟩⟩⟩
  · rw [if_neg (by omega)] at h; exact h
  · rw [if_neg (by omega)] at h; exact h
  · rw [if_pos ⟨q, q2⟩] at h; exact h
theorem s_signOf (hG : zP G) {o x1 : Int} (ho : zND o) (hr : M o 8 ≤ 300) (h : Q (0, znf M o 3 x1 1) M) : Y G d mX1_signOf 0 [(2, o), (0, x1)] [] M Q := by
  unfold znf at h
  refine bX1_signOf_0 hG ho ⟨fun q => ?_, fun q => ⟨fun q2 => ?_, fun q2 => ⟨by omega, ?_⟩⟩⟩
  · rw [if_neg (by omega)] at h; exact h
  · rw [if_neg (by omega)] at h; exact h
  · rw [if_pos ⟨q, q2⟩] at h; exact h
theorem s_partsOf (hG : zP G) {o x1 : Int} (ho : zND o) (hr : M o 8 ≤ 300) (h : Q (0, znf M o 4 x1 0) M) : Y G d mX1_partsOf 0 [(2, o), (0, x1)] [] M Q := by
  unfold znf at h
  refine bX1_partsOf_0 hG ho ⟨fun q => ?_, fun q => ⟨fun q2 => ?_, fun q2 => ⟨by omega, ?_⟩⟩⟩
  · rw [if_neg (by omega)] at h; exact h
  · rw [if_neg (by omega)] at h; exact h
  · rw [if_pos ⟨q, q2⟩] at h; exact h
theorem s_firstOf (hG : zP G) {o x1 : Int} (ho : zND o) (hr : M o 8 ≤ 300) (h : Q (0, znf M o 5 x1 (-1)) M) : Y G d mX1_firstOf 0 [(2, o), (0, x1)] [] M Q := by
  unfold znf at h
  refine bX1_firstOf_0 hG ho ⟨fun q => ?_, fun q => ⟨fun q2 => ?_, fun q2 => ⟨by omega, ?_⟩⟩⟩
  · rw [if_neg (by omega)] at h; exact h
  · rw [if_neg (by omega)] at h; exact h
  · rw [if_pos ⟨q, q2⟩] at h; exact h
theorem s_behind (hG : zP G) {o x1 : Int} (ho : zND o) (hr : M o 8 ≤ 300) (h : Q (0, znf M o 7 x1 (-1)) M) : Y G d mX1_behind 0 [(2, o), (0, x1)] [] M Q := by
  unfold znf at h
  refine bX1_behind_0 hG ho ⟨fun q => ?_, fun q => ⟨fun q2 => ?_, fun q2 => ⟨by omega, ?_⟩⟩⟩
  · rw [if_neg (by omega)] at h; exact h
  · rw [if_neg (by omega)] at h; exact h
  · rw [if_pos ⟨q, q2⟩] at h; exact h
end S1
