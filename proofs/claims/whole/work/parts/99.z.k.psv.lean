section PSV
variable {G : zG} {d : Nat} {M W X : zM} {Q : zV → zM → Prop} {B : Int → Int} {n t : Int} {m : Nat}
def ps_by (M : zM) : Int → Int := fun i => if 0 ≤ i ∧ i < M 13 1 then M 14 i else -1
theorem ps_by_B (h : zJ5 M) : lx_B (ps_by M) (M 13 1) := ⟨h.2.1, fun i hi => if_neg (by omega), fun i i0 i1 => by
  unfold ps_by
  rw [if_pos ⟨i0, i1⟩]; exact (h.2.2 i i0 i1).2⟩
/-- the model begins a text -/
theorem m_txt (hG : zP G) (hE : ps_E B n m) (ht : 0 ≤ t ∧ t < 4) (hM : lx_M B n W) (e6 : W 235 6 = t) (hh : ∀ Xa, ps_Z B n t Xa Xa 0 0 0 ps_z → zfr [(234, 8, 16), (240, 889 * t, 889 * t + 1)] W Xa → Y G (d + 33) mX12_readText 39 [(2, 234), (9, 0)] [] Xa (fun r M' => Y G (d + 33 + 1) mX12_text 18 [(2, 234)] (zpush r [(2, 234)]) M' Q)) : Y G (d + 33 + 1) mX12_text 0 [(2, 234)] [] W Q := by
  refine bX12_text_0 hG ⟨fun _ => bX12_readText_0 (d := d + 32) hG ?_, fun z => by omega⟩
  rw [e6]
  refine ⟨by omega, by omega, ?_⟩
  have hM' : lx_M B n (zset (zset (zset (zset W 234 14 (889 * t)) 240 (889 * t) 0) 234 15 0) 234 8 0) := ps_lM (ps_lM (ps_lM (ps_lM hM (by decide)) ⟨by decide, fun z => absurd z (by decide)⟩) (by decide)) (by decide)
  refine m_tok0 (d := d + 31) hG hE hM' zset_same (fun Xa f1 m1 t1 => hh Xa ⟨⟨m1, t1⟩, ⟨?_, ?_, ?_⟩, fun c' c0 c1 => by omega, fun i i0 i1 => by omega, zfr_rfl⟩ ?_)
  · rw [f1 234 14 (by unfold zhw zhit; simp), zr_set (by decide), zr_set (by decide), zset_off (by decide), zset_same]
  · rw [f1 234 15 (by unfold zhw zhit; simp), zr_set (by decide), zset_same]
  · rw [f1 240 (889 * t) (by unfold zhw zhit; simp; omega), zset_off (by decide), zset_off (by decide), zset_same]
  · refine zfr_trans (zfr_set (zfr_set (zfr_set (zfr_set zfr_rfl (zhit_at 0 rfl (by decide))) (zhit_at 1 rfl (by omega))) (zhit_at 0 rfl (by decide))) (zhit_at 0 rfl (by decide))) (zfr_cov f1 (fun x hx => ?_))
    rw [List.mem_singleton] at hx; subst hx
    exact ⟨(234, 8, 16), List.mem_cons_self, rfl, by decide, by decide⟩
end PSV
