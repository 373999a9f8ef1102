/-! ===== refused calls ===== -/
theorem r_wall_0 (a : qSt) : fL_wall 96 0 a = some ((-9000000000000000001), a) := by
  unfold fL_wall fX5_wall
  rw [noCell1 (isI_of (by omega) (by omega)) (by omega), Option.bind_some, iI_yes, mqbx]
  rfl
theorem r_wall_1 (a : qSt) : fL_wall 0 4 a = some ((-9000000000000000001), a) := by
  unfold fL_wall fX5_wall
  rw [noCell0 (by omega) (by omega), Option.bind_some, iI_no, iI_eq (by omega) (by omega) (by omega) (by omega), if_neg (by omega), noBody1 (isI_of (by omega) (by omega)) (by omega), Option.bind_some, iI_yes, mqbx]
  rfl
theorem r_clear_2 (a : qSt) : fL_clear (-1) a = some ((-9000000000000000001), a) := by
  unfold fL_clear fX5_clear
  rw [noCell1 (isI_of (by omega) (by omega)) (by omega), Option.bind_some, iI_yes, mqbx]
  rfl
theorem r_open_3 (a : qSt) : fL_open 96 2 a = some ((-9000000000000000001), a) := by
  unfold fL_open fX5_open
  rw [noCell1 (isI_of (by omega) (by omega)) (by omega), Option.bind_some, iI_yes, mqbx]
  rfl
theorem r_open_4 (a : qSt) : fL_open 0 0 a = some ((-9000000000000000002), a) := by
  unfold fL_open fX5_open
  rw [noCell0 (by omega) (by omega), Option.bind_some, iI_no, iI_eq (by omega) (by omega) (by omega) (by omega), if_neg (by omega), iI_eq (by omega) (by omega) (by omega) (by omega), if_neg (by omega), mqbx]
  rfl
theorem r_particle_5 (a : qSt) : fL_particle 96 0 a = some ((-9000000000000000001), a) := by
  unfold fL_particle fX5_particle
  rw [noCell1 (isI_of (by omega) (by omega)) (by omega), Option.bind_some, iI_yes, mqbx]
  rfl
theorem r_particle_6 (a : qSt) : fL_particle 0 (-1) a = some ((-9000000000000000002), a) := by
  unfold fL_particle fX5_particle
  rw [noCell0 (by omega) (by omega), Option.bind_some, iI_no, outs1 (isI_of (by omega) (by omega)) (isI_of (by omega) (by omega)) (isI_of (by omega) (by omega)) (by omega), Option.bind_some, iI_yes, mqbx]
  rfl
theorem r_ink_7 (a : qSt) : fL_ink 96 a = some ((-9000000000000000001), a) := by
  unfold fL_ink fX5_ink
  rw [noCell1 (isI_of (by omega) (by omega)) (by omega), Option.bind_some, iI_yes, mqbx]
  rfl
theorem r_probe_8 (a : qSt) : fL_probe (-1) a = some ((-9000000000000000001), a) := by
  unfold fL_probe fX5_probe
  rw [noCell1 (isI_of (by omega) (by omega)) (by omega), Option.bind_some, iI_yes, mqbx]
  rfl
theorem r_fault_9 (a : qSt) : fL_fault (-1) 0 a = some ((-9000000000000000001), a) := by
  unfold fL_fault fX5_fault
  rw [noBody1 (isI_of (by omega) (by omega)) (by omega), Option.bind_some, iI_yes, mqbx]
  rfl
theorem r_fault_10 (a : qSt) : fL_fault 0 6 a = some ((-9000000000000000002), a) := by
  unfold fL_fault fX5_fault
  rw [noBody0 (by omega) (by omega), Option.bind_some, iI_no, outs1 (isI_of (by omega) (by omega)) (isI_of (by omega) (by omega)) (isI_of (by omega) (by omega)) (by omega), Option.bind_some, iI_yes, mqbx]
  rfl
theorem r_bring_11 (a : qSt) : fL_bring 96 0 1 a = some ((-9000000000000000001), a) := by
  unfold fL_bring fX5_bring
  rw [noCell1 (isI_of (by omega) (by omega)) (by omega), Option.bind_some, iI_yes, mqbx]
  rfl
theorem r_bring_12 (a : qSt) : fL_bring 0 0 0 a = some ((-9000000000000000002), a) := by
  unfold fL_bring fX5_bring
  rw [noCell0 (by omega) (by omega), Option.bind_some, iI_no, outs0 (by omega) (by omega) (by omega) (by omega), Option.bind_some, iI_no, outs1 (isI_of (by omega) (by omega)) (isI_of (by omega) (by omega)) (isI_of (by omega) (by omega)) (by omega), Option.bind_some, iI_yes, mqbx]
  rfl
theorem r_step_13 (a : qSt) : fL_step 0 a = some ((-9000000000000000002), a) := by
  unfold fL_step fX5_step
  rw [outs1 (isI_of (by omega) (by omega)) (isI_of (by omega) (by omega)) (isI_of (by omega) (by omega)) (by omega), Option.bind_some, iI_yes, mqbx]
  rfl
theorem r_back_14 (a : qSt) : fL_back 0 a = some ((-9000000000000000002), a) := by
  unfold fL_back fX5_back
  rw [outs1 (isI_of (by omega) (by omega)) (isI_of (by omega) (by omega)) (isI_of (by omega) (by omega)) (by omega), Option.bind_some, iI_yes, mqbx]
  rfl
theorem r_flow_15 (a : qSt) : fL_flow 0 a = some ((-9000000000000000002), a) := by
  unfold fL_flow fX5_flow
  rw [outs1 (isI_of (by omega) (by omega)) (isI_of (by omega) (by omega)) (isI_of (by omega) (by omega)) (by omega), Option.bind_some, iI_yes, mqbx]
  rfl
theorem r_cellOf_16 (a : qSt) : fL_cellOf (-1) 0 a = some ((-9000000000000000001), a) := by
  unfold fL_cellOf fX5_cellOf
  rw [noCell1 (isI_of (by omega) (by omega)) (by omega), Option.bind_some, iI_yes, mqbx]
  rfl
theorem r_cellOf_17 (a : qSt) : fL_cellOf 0 8 a = some ((-9000000000000000002), a) := by
  unfold fL_cellOf fX5_cellOf
  rw [noCell0 (by omega) (by omega), Option.bind_some, iI_no, iI_eq (by omega) (by omega) (by omega) (by omega), if_neg (by omega), iI_eq (by omega) (by omega) (by omega) (by omega), if_neg (by omega), iI_eq (by omega) (by omega) (by omega) (by omega), if_neg (by omega), iI_eq (by omega) (by omega) (by omega) (by omega), if_neg (by omega), iI_eq (by omega) (by omega) (by omega) (by omega), if_neg (by omega), iI_eq (by omega) (by omega) (by omega) (by omega), if_neg (by omega), iI_eq (by omega) (by omega) (by omega) (by omega), if_neg (by omega), iI_eq (by omega) (by omega) (by omega) (by omega), if_neg (by omega), mqbx]
  rfl
theorem r_bodyOf_18 (a : qSt) : fL_bodyOf 4 0 a = some ((-9000000000000000001), a) := by
  unfold fL_bodyOf fX5_bodyOf
  rw [noBody1 (isI_of (by omega) (by omega)) (by omega), Option.bind_some, iI_yes, mqbx]
  rfl
theorem r_bodyOf_19 (a : qSt) : fL_bodyOf 0 6 a = some ((-9000000000000000002), a) := by
  unfold fL_bodyOf fX5_bodyOf
  rw [noBody0 (by omega) (by omega), Option.bind_some, iI_no, iI_eq (by omega) (by omega) (by omega) (by omega), if_neg (by omega), iI_eq (by omega) (by omega) (by omega) (by omega), if_neg (by omega), iI_eq (by omega) (by omega) (by omega) (by omega), if_neg (by omega), iI_eq (by omega) (by omega) (by omega) (by omega), if_neg (by omega), iI_eq (by omega) (by omega) (by omega) (by omega), if_neg (by omega), iI_eq (by omega) (by omega) (by omega) (by omega), if_neg (by omega), mqbx]
  rfl
theorem r_sum_20 (a : qSt) : fL_sum 8 a = some ((-9000000000000000002), a) := by
  unfold fL_sum fX5_sum
  rw [iI_eq (by omega) (by omega) (by omega) (by omega), if_neg (by omega), iI_eq (by omega) (by omega) (by omega) (by omega), if_neg (by omega), iI_eq (by omega) (by omega) (by omega) (by omega), if_neg (by omega), iI_eq (by omega) (by omega) (by omega) (by omega), if_neg (by omega), iI_eq (by omega) (by omega) (by omega) (by omega), if_neg (by omega), iI_eq (by omega) (by omega) (by omega) (by omega), if_neg (by omega), iI_eq (by omega) (by omega) (by omega) (by omega), if_neg (by omega), iI_eq (by omega) (by omega) (by omega) (by omega), if_neg (by omega), mqbx]
  rfl
theorem r_average_21 (a : qSt) : fL_average 1 3 0 0 1 1 a = some ((-9000000000000000002), a) := by
  unfold fL_average fX5_average
  rw [outs1 (isI_of (by omega) (by omega)) (isI_of (by omega) (by omega)) (isI_of (by omega) (by omega)) (by omega), Option.bind_some, iI_yes, mqbx]
  rfl
theorem r_scatter_22 (a : qSt) : fL_scatter 1 0 7 0 2 1 a = some ((-9000000000000000002), a) := by
  unfold fL_scatter fX5_scatter
  rw [outs0 (by omega) (by omega) (by omega) (by omega), Option.bind_some, iI_no, m_noWin (isI_of (by omega) (by omega)) (isI_of (by omega) (by omega)) (isI_of (by omega) (by omega)) (isI_of (by omega) (by omega)), Option.bind_some, if_neg (show ¬ WIN 7 0 2 1 from fun z => by have := z.2.2.1; omega), iI_yes, mqbx]
  rfl
theorem r_ahead_23 (a : qSt) : fL_ahead 0 6 a = some ((-9000000000000000002), a) := by
  unfold fL_ahead fX5_ahead
  rw [noCell0 (by omega) (by omega), Option.bind_some, iI_no, outs1 (isI_of (by omega) (by omega)) (isI_of (by omega) (by omega)) (isI_of (by omega) (by omega)) (by omega), Option.bind_some, iI_yes, mqbx]
  rfl
theorem r_aheadAnew_24 (a : qSt) : fL_aheadAnew 96 0 a = some ((-9000000000000000001), a) := by
  unfold fL_aheadAnew fX5_aheadAnew
  rw [noCell1 (isI_of (by omega) (by omega)) (by omega), Option.bind_some, iI_yes, mqbx]
  rfl
theorem r_mixed_25 (a : qSt) : fL_mixed 2 a = some ((-9000000000000000002), a) := by
  unfold fL_mixed fX5_mixed
  rw [iI_eq (by omega) (by omega) (by omega) (by omega), if_neg (by omega), iI_eq (by omega) (by omega) (by omega) (by omega), if_neg (by omega), mqbx]
  rfl
theorem r_record_26 (a : qSt) (q0 : 0 ≤ a 38 3) (q1 : a 38 3 ≤ 4) : fL_record 4 0 a = some ((-9000000000000000001), a) := by
  unfold fL_record fX5_record
  rw [outs1 (isI_of (by omega) (by omega)) (isI_of (by omega) (by omega)) (isI_of (by omega) (by omega)) (by omega), Option.bind_some, iI_yes, mqbx]
  rfl
theorem r_beat_27 (a : qSt) (q0 : 0 ≤ a 38 3) (q1 : a 38 3 ≤ 4) : fL_beat 4 a = some ((-9000000000000000001), a) := by
  unfold fL_beat fX5_beat
  rw [outs1 (isI_of (by omega) (by omega)) (isI_of (by omega) (by omega)) (isI_of (by omega) (by omega)) (by omega), Option.bind_some, iI_yes, mqbx]
  rfl
theorem r_better_28 (a : qSt) : fL_better 4 1 a = some ((-9000000000000000001), a) := by
  unfold fL_better fX5_better
  rw [noBody1 (isI_of (by omega) (by omega)) (by omega), Option.bind_some, iI_yes, mqbx]
  rfl
theorem r_better_29 (a : qSt) : fL_better 0 0 a = some ((-9000000000000000002), a) := by
  unfold fL_better fX5_better
  rw [noBody0 (by omega) (by omega), Option.bind_some, iI_no, outs1 (isI_of (by omega) (by omega)) (isI_of (by omega) (by omega)) (isI_of (by omega) (by omega)) (by omega), Option.bind_some, iI_yes, mqbx]
  rfl
theorem L_refuses {h e s r n : Int} {a : qSt} (H : I h e s r n a) (hh : h ≤ 500) (hn : n ≤ 1000000) (he : e ≤ 10000) (hs : s ≤ 5000) : fL_refuses a = some (1, a) := by
  obtain ⟨q0, q1⟩ := H.2.2.2.2.1.2.2.1
  unfold fL_refuses
  rw [L_mark H hh hn he hs, mqbd, L_s1 H hn he hs, mqbd]
  rw [r_wall_0, mqbd, lcmp_self, iI_no]
  rw [r_wall_1, mqbd, lcmp_self, iI_no]
  rw [r_clear_2, mqbd, lcmp_self, iI_no]
  rw [r_open_3, mqbd, lcmp_self, iI_no]
  rw [r_open_4, mqbd, lcmp_self, iI_no]
  rw [r_particle_5, mqbd, lcmp_self, iI_no]
  rw [r_particle_6, mqbd, lcmp_self, iI_no]
  rw [r_ink_7, mqbd, lcmp_self, iI_no]
  rw [r_probe_8, mqbd, lcmp_self, iI_no]
  rw [r_fault_9, mqbd, lcmp_self, iI_no]
  rw [r_fault_10, mqbd, lcmp_self, iI_no]
  rw [r_bring_11, mqbd, lcmp_self, iI_no]
  rw [r_bring_12, mqbd, lcmp_self, iI_no]
  rw [r_step_13, mqbd, lcmp_self, iI_no]
  rw [r_back_14, mqbd, lcmp_self, iI_no]
  rw [r_flow_15, mqbd, lcmp_self, iI_no]
  rw [r_cellOf_16, mqbd, lcmp_self, iI_no]
  rw [r_cellOf_17, mqbd, lcmp_self, iI_no]
  rw [r_bodyOf_18, mqbd, lcmp_self, iI_no]
  rw [r_bodyOf_19, mqbd, lcmp_self, iI_no]
  rw [r_sum_20, mqbd, lcmp_self, iI_no]
  unfold fL_refuses_c293
  rw [mqif _ (by omega), iI_yes]
  rw [r_average_21, mqbd, lcmp_self, iI_no]
  rw [r_scatter_22, mqbd, lcmp_self, iI_no]
  rw [r_ahead_23, mqbd, lcmp_self, iI_no]
  rw [r_aheadAnew_24, mqbd, lcmp_self, iI_no]
  rw [r_mixed_25, mqbd, lcmp_self, iI_no]
  rw [r_record_26 a q0 q1, mqbd, lcmp_self, iI_no]
  rw [r_beat_27 a q0 q1, mqbd, lcmp_self, iI_no]
  rw [r_better_28, mqbd, lcmp_self, iI_no]
  rw [r_better_29, mqbd, lcmp_self, iI_no]
  rw [L_mark H hh hn he hs, mqbd, lcmp_self, iI_no, L_s1 H hn he hs, mqbd, lcmp_self, iI_no]
