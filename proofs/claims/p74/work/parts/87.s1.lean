set_option maxRecDepth 100000 in
theorem x_pl_0_5 {m : q_M} (hM : bi_M kc_I m) : x_at m 0 5 ∧ -2147483648 ≤ q_i m 0 5 ∧ q_i m 0 5 ≤ 2147483647 := x_fld hM rfl rfl
set_option maxRecDepth 100000 in
theorem x_pl_85_1 {m : q_M} (hM : bi_M kc_I m) : x_at m 85 1 ∧ -2147483648 ≤ q_i m 85 1 ∧ q_i m 85 1 ≤ 2147483647 := x_fld hM rfl rfl
set_option maxRecDepth 100000 in
theorem x_pl_85_2 {m : q_M} (hM : bi_M kc_I m) : x_at m 85 2 ∧ -1 ≤ q_i m 85 2 ∧ q_i m 85 2 ≤ 60 := x_fld hM rfl rfl
set_option maxRecDepth 100000 in
theorem x_pl_87_1 {m : q_M} (hM : bi_M kc_I m) : x_at m 87 1 ∧ -2147483648 ≤ q_i m 87 1 ∧ q_i m 87 1 ≤ 2147483647 := x_fld hM rfl rfl
set_option maxRecDepth 100000 in
theorem x_pl_87_2 {m : q_M} (hM : bi_M kc_I m) : x_at m 87 2 ∧ -1 ≤ q_i m 87 2 ∧ q_i m 87 2 ≤ 60 := x_fld hM rfl rfl
set_option maxRecDepth 100000 in
theorem x_pl_89_1 {m : q_M} (hM : bi_M kc_I m) : x_at m 89 1 ∧ -2147483648 ≤ q_i m 89 1 ∧ q_i m 89 1 ≤ 2147483647 := x_fld hM rfl rfl
set_option maxRecDepth 100000 in
theorem x_pl_89_2 {m : q_M} (hM : bi_M kc_I m) : x_at m 89 2 ∧ -1 ≤ q_i m 89 2 ∧ q_i m 89 2 ≤ 60 := x_fld hM rfl rfl
set_option maxRecDepth 100000 in
theorem x_pl_91_1 {m : q_M} (hM : bi_M kc_I m) : x_at m 91 1 ∧ -2147483648 ≤ q_i m 91 1 ∧ q_i m 91 1 ≤ 2147483647 := x_fld hM rfl rfl
set_option maxRecDepth 100000 in
theorem x_pl_91_2 {m : q_M} (hM : bi_M kc_I m) : x_at m 91 2 ∧ -1 ≤ q_i m 91 2 ∧ q_i m 91 2 ≤ 60 := x_fld hM rfl rfl
set_option maxRecDepth 100000 in
theorem x_pl_96_0 {m : q_M} (hM : bi_M kc_I m) : x_at m 96 0 ∧ 0 ≤ q_i m 96 0 ∧ q_i m 96 0 ≤ 1 := x_arr hM rfl (by decide)
set_option maxRecDepth 100000 in
theorem x_pl_96_1 {m : q_M} (hM : bi_M kc_I m) : x_at m 96 1 ∧ 0 ≤ q_i m 96 1 ∧ q_i m 96 1 ≤ 1 := x_arr hM rfl (by decide)
set_option maxRecDepth 100000 in
theorem x_pl_96_2 {m : q_M} (hM : bi_M kc_I m) : x_at m 96 2 ∧ 0 ≤ q_i m 96 2 ∧ q_i m 96 2 ≤ 1 := x_arr hM rfl (by decide)
set_option maxRecDepth 100000 in
theorem x_pl_114_0 {m : q_M} (hM : bi_M kc_I m) : x_at m 114 0 ∧ -1 ≤ q_i m 114 0 ∧ q_i m 114 0 ≤ 60 := x_arr hM rfl (by decide)
set_option maxRecDepth 100000 in
theorem x_pl_114_1 {m : q_M} (hM : bi_M kc_I m) : x_at m 114 1 ∧ -1 ≤ q_i m 114 1 ∧ q_i m 114 1 ≤ 60 := x_arr hM rfl (by decide)
set_option maxRecDepth 100000 in
theorem x_pl_114_2 {m : q_M} (hM : bi_M kc_I m) : x_at m 114 2 ∧ -1 ≤ q_i m 114 2 ∧ q_i m 114 2 ≤ 60 := x_arr hM rfl (by decide)
set_option maxRecDepth 100000 in
theorem x_pl_114_3 {m : q_M} (hM : bi_M kc_I m) : x_at m 114 3 ∧ -1 ≤ q_i m 114 3 ∧ q_i m 114 3 ≤ 60 := x_arr hM rfl (by decide)
set_option maxRecDepth 100000 in
theorem x_pl_115_0 {m : q_M} (hM : bi_M kc_I m) : x_at m 115 0 ∧ 0 ≤ q_i m 115 0 ∧ q_i m 115 0 ≤ 3 := x_arr hM rfl (by decide)
set_option maxRecDepth 100000 in
theorem x_pl_115_1 {m : q_M} (hM : bi_M kc_I m) : x_at m 115 1 ∧ 0 ≤ q_i m 115 1 ∧ q_i m 115 1 ≤ 3 := x_arr hM rfl (by decide)
set_option maxRecDepth 100000 in
theorem x_pl_115_2 {m : q_M} (hM : bi_M kc_I m) : x_at m 115 2 ∧ 0 ≤ q_i m 115 2 ∧ q_i m 115 2 ≤ 3 := x_arr hM rfl (by decide)
set_option maxRecDepth 100000 in
theorem x_pl_115_3 {m : q_M} (hM : bi_M kc_I m) : x_at m 115 3 ∧ 0 ≤ q_i m 115 3 ∧ q_i m 115 3 ≤ 3 := x_arr hM rfl (by decide)
theorem kb_221 {K : r_K} (hK : r_K1 K) (g : Int) : bc_ok q_D kc_I (r_F K g) kc_221 := b_chk_ok (r_hk_ok kc_Iok hK) kc_srt (r_bgF kc_Iok) kk_221 (fun d hd => by cases hd)
theorem kb_222 {K : r_K} (hK : r_K1 K) (g : Int) : bc_ok q_D kc_I (r_F K g) kc_222 := b_chk_ok (r_hk_ok kc_Iok hK) kc_srt (r_bgF kc_Iok) kk_222 (fun d hd => by cases hd)
theorem kb_223 {K : r_K} (hK : r_K1 K) (g : Int) : bc_ok q_D kc_I (r_F K g) kc_223 := b_chk_ok (r_hk_ok kc_Iok hK) kc_srt (r_bgF kc_Iok) kk_223 (fun d hd => by cases hd)
theorem kb_225 {K : r_K} (hK : r_K1 K) (g : Int) : bc_ok q_D kc_I (r_F K g) kc_225 := b_chk_ok (r_hk_ok kc_Iok hK) kc_srt (r_bgF kc_Iok) kk_225 (fun d hd => by cases hd)
theorem kb_226 {K : r_K} (hK : r_K1 K) (g : Int) : bc_ok q_D kc_I (r_F K g) kc_226 := b_chk_ok (r_hk_ok kc_Iok hK) kc_srt (r_bgF kc_Iok) kk_226 (fun d hd => by cases hd)
theorem kb_227 {K : r_K} (hK : r_K1 K) (g : Int) : bc_ok q_D kc_I (r_F K g) kc_227 := b_chk_ok (r_hk_ok kc_Iok hK) kc_srt (r_bgF kc_Iok) kk_227 (fun d hd => by cases hd)
theorem kb_229 {K : r_K} (hK : r_K1 K) (g : Int) : bc_ok q_D kc_I (r_F K g) kc_229 := b_chk_ok (r_hk_ok kc_Iok hK) kc_srt (r_bgF kc_Iok) kk_229 (fun d hd => by cases hd)
theorem kb_231 {K : r_K} (hK : r_K1 K) (g : Int) : bc_ok q_D kc_I (r_F K g) kc_231 := b_chk_ok (r_hk_ok kc_Iok hK) kc_srt (r_bgF kc_Iok) kk_231 (fun d hd => by cases hd)
theorem kb_233 {K : r_K} (hK : r_K1 K) (g : Int) : bc_ok q_D kc_I (r_F K g) kc_233 := b_chk_ok (r_hk_ok kc_Iok hK) kc_srt (r_bgF kc_Iok) kk_233 (fun d hd => by cases hd)
theorem kb_235 {K : r_K} (hK : r_K1 K) (g : Int) : bc_ok q_D kc_I (r_F K g) kc_235 := b_chk_ok (r_hk_ok kc_Iok hK) kc_srt (r_bgF kc_Iok) kk_235 (fun d hd => by cases hd)
def xi_C00 : b_Con := (207, [.inr (.inl 0), .inl (false, (-2147483648), 2147483647)], [x_o], [(0, 5, 5), (49, 0, 0), (49, 1, 1), (49, 2, 2), (49, 3, 3), (49, 4, 4), (49, 5, 5), (49, 6, 6), (50, 0, 19), (51, 0, 19), (52, 0, 19), (53, 0, 19), (54, 0, 19), (55, 0, 19), (56, 0, 5), (57, 0, 5), (58, 0, 5), (59, 0, 5), (60, 0, 119)], [])
set_option maxRecDepth 100000 in
theorem xi_C00_k : b_chkG r_hk q_D kc_I r_fp 3000 xi_C00 [] [kc_221] []
   [(25, [], [], [((0, [], [], [(0, ([], 5), (false, ([], 0)))], []), [(0, .inr (.inl 0)), (1, .inl (false, ([], 0)))], ([], 0))])] 0 25
   ((0, [], [], [(0, ([], 5), (false, ([], 0)))], []), b_lvs 0 [.inr (.inl 0), .inl (false, ([], 0))], ([], 0)) = true := by decide +kernel
theorem xi_C00_p {m : q_M} (hM : bi_M kc_I m) (hv : q_i m 0 5 = 0) : ∃ (n : Nat) (m1 : q_M), q_run q_D n q_m207 0 (lv_args 0 [.ref 0, .int 0]) [] m = some (some (.int 0), m1) ∧ bi_M kc_I m1 ∧ q_same [(0, 5, 5), (49, 0, 0), (49, 1, 1), (49, 2, 2), (49, 3, 3), (49, 4, 4), (49, 5, 5), (49, 6, 6), (50, 0, 19), (51, 0, 19), (52, 0, 19), (53, 0, 19), (54, 0, 19), (55, 0, 19), (56, 0, 5), (57, 0, 5), (58, 0, 5), (59, 0, 5), (60, 0, 119)] m m1 ∧ q_i m1 0 5 = 1 :=
  x_run2 (P := fun m => q_i m 0 5 = 1) (g := 0) (c := xi_C00) rfl xi_C00_k (fun d hd => by rw [List.mem_singleton.mp hd]; exact kb_221 x_K1 _) rfl (fun x hx _ T hT l zs m e f hM => by
    have e1 := List.mem_singleton.mp hx
    subst e1
    have e2 := List.mem_singleton.mp hT
    subst e2
    obtain ⟨z, z1, z2⟩ := x_O' (c := 0) (j := 5) (e.2.2.2.1 _ (List.mem_singleton.mpr rfl))
    have hv : q_i m 0 5 = 0 := z2.trans (b_is_uniq z1 (b_is_c 0))
    obtain ⟨w, w1, w2⟩ := (x_pl_0_5 hM).1
    have hw : w = 0 := x_i32 (show w.toInt = 0 by omega)
    subst hw
    obtain ⟨y0, q0, p0⟩ := f 0 (.inr (.inl 0)) rfl
    have p0 : y0 = .ref 0 := p0
    subst p0
    obtain ⟨y1, q1, w3, p1, p2⟩ := f 1 (.inl (false, ([], 0))) rfl
    have p2 : w3 = 0 := x_i32 (show w3.toInt = 0 from b_is_uniq p2 (b_is_c 0))
    subst p2
    subst p1
    obtain ⟨m1, k1, k2, k3, k4⟩ := x_tail hM q0 q1 w1
    refine ⟨10, m1, k1, k2, q_same.mono (fun c j hc => ?_) k3, ?_⟩
    · obtain ⟨w, hw, h1⟩ := hc
      exact ⟨w, by rw [List.mem_singleton.mp hw]; exact List.mem_cons_self, h1⟩
    · unfold q_i
      rw [k4]
      decide) (zs := []) ⟨rfl, x_B0, x_C0, x_M (x_O (x_pl_0_5 hM).1 (by rw [hv]; exact b_is_c 0)) x_M0, x_Q0⟩ (b_lvs_ok 0 ⟨rfl, ⟨0, rfl, b_is_c 0⟩, trivial⟩) hM
def xi_C01 : b_Con := (207, [.inr (.inl 0), .inl (false, (-2147483648), 2147483647)], [x_o], [(0, 5, 5), (49, 0, 0), (49, 1, 1), (49, 2, 2), (49, 3, 3), (49, 4, 4), (49, 5, 5), (49, 6, 6), (50, 0, 19), (51, 0, 19), (52, 0, 19), (53, 0, 19), (54, 0, 19), (55, 0, 19), (56, 0, 5), (57, 0, 5), (58, 0, 5), (59, 0, 5), (60, 0, 119)], [])
set_option maxRecDepth 100000 in
theorem xi_C01_k : b_chkG r_hk q_D kc_I r_fp 3000 xi_C01 [] [kc_221] []
   [(25, [], [], [((0, [], [], [(0, ([], 5), (false, ([], 1)))], []), [(0, .inr (.inl 0)), (1, .inl (false, ([], 0)))], ([], 0))])] 0 25
   ((0, [], [], [(0, ([], 5), (false, ([], 1)))], []), b_lvs 0 [.inr (.inl 0), .inl (false, ([], 0))], ([], 0)) = true := by decide +kernel
theorem xi_C01_p {m : q_M} (hM : bi_M kc_I m) (hv : q_i m 0 5 = 1) : ∃ (n : Nat) (m1 : q_M), q_run q_D n q_m207 0 (lv_args 0 [.ref 0, .int 0]) [] m = some (some (.int 0), m1) ∧ bi_M kc_I m1 ∧ q_same [(0, 5, 5), (49, 0, 0), (49, 1, 1), (49, 2, 2), (49, 3, 3), (49, 4, 4), (49, 5, 5), (49, 6, 6), (50, 0, 19), (51, 0, 19), (52, 0, 19), (53, 0, 19), (54, 0, 19), (55, 0, 19), (56, 0, 5), (57, 0, 5), (58, 0, 5), (59, 0, 5), (60, 0, 119)] m m1 ∧ q_i m1 0 5 = 1 :=
  x_run2 (P := fun m => q_i m 0 5 = 1) (g := 0) (c := xi_C01) rfl xi_C01_k (fun d hd => by rw [List.mem_singleton.mp hd]; exact kb_221 x_K1 _) rfl (fun x hx _ T hT l zs m e f hM => by
    have e1 := List.mem_singleton.mp hx
    subst e1
    have e2 := List.mem_singleton.mp hT
    subst e2
    obtain ⟨z, z1, z2⟩ := x_O' (c := 0) (j := 5) (e.2.2.2.1 _ (List.mem_singleton.mpr rfl))
    have hv : q_i m 0 5 = 1 := z2.trans (b_is_uniq z1 (b_is_c 1))
    obtain ⟨w, w1, w2⟩ := (x_pl_0_5 hM).1
    have hw : w = 1 := x_i32 (show w.toInt = 1 by omega)
    subst hw
    obtain ⟨y0, q0, p0⟩ := f 0 (.inr (.inl 0)) rfl
    have p0 : y0 = .ref 0 := p0
    subst p0
    obtain ⟨y1, q1, w3, p1, p2⟩ := f 1 (.inl (false, ([], 0))) rfl
    have p2 : w3 = 0 := x_i32 (show w3.toInt = 0 from b_is_uniq p2 (b_is_c 0))
    subst p2
    subst p1
    obtain ⟨m1, k1, k2, k3, k4⟩ := x_tail hM q0 q1 w1
    refine ⟨10, m1, k1, k2, q_same.mono (fun c j hc => ?_) k3, ?_⟩
    · obtain ⟨w, hw, h1⟩ := hc
      exact ⟨w, by rw [List.mem_singleton.mp hw]; exact List.mem_cons_self, h1⟩
    · unfold q_i
      rw [k4]
      decide) (zs := []) ⟨rfl, x_B0, x_C0, x_M (x_O (x_pl_0_5 hM).1 (by rw [hv]; exact b_is_c 1)) x_M0, x_Q0⟩ (b_lvs_ok 0 ⟨rfl, ⟨0, rfl, b_is_c 0⟩, trivial⟩) hM
def xi_C02 : b_Con := (207, [.inr (.inl 0), .inl (false, (-2147483648), 2147483647)], [x_o], [(0, 5, 5), (49, 0, 0), (49, 1, 1), (49, 2, 2), (49, 3, 3), (49, 4, 4), (49, 5, 5), (49, 6, 6), (50, 0, 19), (51, 0, 19), (52, 0, 19), (53, 0, 19), (54, 0, 19), (55, 0, 19), (56, 0, 5), (57, 0, 5), (58, 0, 5), (59, 0, 5), (60, 0, 119)], [])
set_option maxRecDepth 100000 in
theorem xi_C02_k : b_chkG r_hk q_D kc_I r_fp 3000 xi_C02 [] [kc_221] []
   [(25, [], [], [((0, [], [], [(0, ([], 5), (false, ([], 2)))], []), [(0, .inr (.inl 0)), (1, .inl (false, ([], 0)))], ([], 0))])] 0 25
   ((0, [], [], [(0, ([], 5), (false, ([], 2)))], []), b_lvs 0 [.inr (.inl 0), .inl (false, ([], 0))], ([], 0)) = true := by decide +kernel
theorem xi_C02_p {m : q_M} (hM : bi_M kc_I m) (hv : q_i m 0 5 = 2) : ∃ (n : Nat) (m1 : q_M), q_run q_D n q_m207 0 (lv_args 0 [.ref 0, .int 0]) [] m = some (some (.int 0), m1) ∧ bi_M kc_I m1 ∧ q_same [(0, 5, 5), (49, 0, 0), (49, 1, 1), (49, 2, 2), (49, 3, 3), (49, 4, 4), (49, 5, 5), (49, 6, 6), (50, 0, 19), (51, 0, 19), (52, 0, 19), (53, 0, 19), (54, 0, 19), (55, 0, 19), (56, 0, 5), (57, 0, 5), (58, 0, 5), (59, 0, 5), (60, 0, 119)] m m1 ∧ q_i m1 0 5 = 3 :=
  x_run2 (P := fun m => q_i m 0 5 = 3) (g := 0) (c := xi_C02) rfl xi_C02_k (fun d hd => by rw [List.mem_singleton.mp hd]; exact kb_221 x_K1 _) rfl (fun x hx _ T hT l zs m e f hM => by
    have e1 := List.mem_singleton.mp hx
    subst e1
    have e2 := List.mem_singleton.mp hT
    subst e2
    obtain ⟨z, z1, z2⟩ := x_O' (c := 0) (j := 5) (e.2.2.2.1 _ (List.mem_singleton.mpr rfl))
    have hv : q_i m 0 5 = 2 := z2.trans (b_is_uniq z1 (b_is_c 2))
    obtain ⟨w, w1, w2⟩ := (x_pl_0_5 hM).1
    have hw : w = 2 := x_i32 (show w.toInt = 2 by omega)
    subst hw
    obtain ⟨y0, q0, p0⟩ := f 0 (.inr (.inl 0)) rfl
    have p0 : y0 = .ref 0 := p0
    subst p0
    obtain ⟨y1, q1, w3, p1, p2⟩ := f 1 (.inl (false, ([], 0))) rfl
    have p2 : w3 = 0 := x_i32 (show w3.toInt = 0 from b_is_uniq p2 (b_is_c 0))
    subst p2
    subst p1
    obtain ⟨m1, k1, k2, k3, k4⟩ := x_tail hM q0 q1 w1
    refine ⟨10, m1, k1, k2, q_same.mono (fun c j hc => ?_) k3, ?_⟩
    · obtain ⟨w, hw, h1⟩ := hc
      exact ⟨w, by rw [List.mem_singleton.mp hw]; exact List.mem_cons_self, h1⟩
    · unfold q_i
      rw [k4]
      decide) (zs := []) ⟨rfl, x_B0, x_C0, x_M (x_O (x_pl_0_5 hM).1 (by rw [hv]; exact b_is_c 2)) x_M0, x_Q0⟩ (b_lvs_ok 0 ⟨rfl, ⟨0, rfl, b_is_c 0⟩, trivial⟩) hM
def xi_C03 : b_Con := (207, [.inr (.inl 0), .inl (false, (-2147483648), 2147483647)], [x_o], [(0, 5, 5), (49, 0, 0), (49, 1, 1), (49, 2, 2), (49, 3, 3), (49, 4, 4), (49, 5, 5), (49, 6, 6), (50, 0, 19), (51, 0, 19), (52, 0, 19), (53, 0, 19), (54, 0, 19), (55, 0, 19), (56, 0, 5), (57, 0, 5), (58, 0, 5), (59, 0, 5), (60, 0, 119)], [])
set_option maxRecDepth 100000 in
theorem xi_C03_k : b_chkG r_hk q_D kc_I r_fp 3000 xi_C03 [] [kc_221] []
   [(25, [], [], [((0, [], [], [(0, ([], 5), (false, ([], 3)))], []), [(0, .inr (.inl 0)), (1, .inl (false, ([], 0)))], ([], 0))])] 0 25
   ((0, [], [], [(0, ([], 5), (false, ([], 3)))], []), b_lvs 0 [.inr (.inl 0), .inl (false, ([], 0))], ([], 0)) = true := by decide +kernel
theorem xi_C03_p {m : q_M} (hM : bi_M kc_I m) (hv : q_i m 0 5 = 3) : ∃ (n : Nat) (m1 : q_M), q_run q_D n q_m207 0 (lv_args 0 [.ref 0, .int 0]) [] m = some (some (.int 0), m1) ∧ bi_M kc_I m1 ∧ q_same [(0, 5, 5), (49, 0, 0), (49, 1, 1), (49, 2, 2), (49, 3, 3), (49, 4, 4), (49, 5, 5), (49, 6, 6), (50, 0, 19), (51, 0, 19), (52, 0, 19), (53, 0, 19), (54, 0, 19), (55, 0, 19), (56, 0, 5), (57, 0, 5), (58, 0, 5), (59, 0, 5), (60, 0, 119)] m m1 ∧ q_i m1 0 5 = 3 :=
  x_run2 (P := fun m => q_i m 0 5 = 3) (g := 0) (c := xi_C03) rfl xi_C03_k (fun d hd => by rw [List.mem_singleton.mp hd]; exact kb_221 x_K1 _) rfl (fun x hx _ T hT l zs m e f hM => by
    have e1 := List.mem_singleton.mp hx
    subst e1
    have e2 := List.mem_singleton.mp hT
    subst e2
    obtain ⟨z, z1, z2⟩ := x_O' (c := 0) (j := 5) (e.2.2.2.1 _ (List.mem_singleton.mpr rfl))
    have hv : q_i m 0 5 = 3 := z2.trans (b_is_uniq z1 (b_is_c 3))
    obtain ⟨w, w1, w2⟩ := (x_pl_0_5 hM).1
    have hw : w = 3 := x_i32 (show w.toInt = 3 by omega)
    subst hw
    obtain ⟨y0, q0, p0⟩ := f 0 (.inr (.inl 0)) rfl
    have p0 : y0 = .ref 0 := p0
    subst p0
    obtain ⟨y1, q1, w3, p1, p2⟩ := f 1 (.inl (false, ([], 0))) rfl
    have p2 : w3 = 0 := x_i32 (show w3.toInt = 0 from b_is_uniq p2 (b_is_c 0))
    subst p2
    subst p1
    obtain ⟨m1, k1, k2, k3, k4⟩ := x_tail hM q0 q1 w1
    refine ⟨10, m1, k1, k2, q_same.mono (fun c j hc => ?_) k3, ?_⟩
    · obtain ⟨w, hw, h1⟩ := hc
      exact ⟨w, by rw [List.mem_singleton.mp hw]; exact List.mem_cons_self, h1⟩
    · unfold q_i
      rw [k4]
      decide) (zs := []) ⟨rfl, x_B0, x_C0, x_M (x_O (x_pl_0_5 hM).1 (by rw [hv]; exact b_is_c 3)) x_M0, x_Q0⟩ (b_lvs_ok 0 ⟨rfl, ⟨0, rfl, b_is_c 0⟩, trivial⟩) hM
def xi_C04 : b_Con := (207, [.inr (.inl 0), .inl (false, (-2147483648), 2147483647)], [x_o], [(0, 5, 5), (49, 0, 0), (49, 1, 1), (49, 2, 2), (49, 3, 3), (49, 4, 4), (49, 5, 5), (49, 6, 6), (50, 0, 19), (51, 0, 19), (52, 0, 19), (53, 0, 19), (54, 0, 19), (55, 0, 19), (56, 0, 5), (57, 0, 5), (58, 0, 5), (59, 0, 5), (60, 0, 119)], [])
set_option maxRecDepth 100000 in
theorem xi_C04_k : b_chkG r_hk q_D kc_I r_fp 3000 xi_C04 [] [kc_221] []
   [(25, [], [], [((0, [], [], [(0, ([], 5), (false, ([], 4)))], []), [(0, .inr (.inl 0)), (1, .inl (false, ([], 0)))], ([], 0))])] 0 25
   ((0, [], [], [(0, ([], 5), (false, ([], 4)))], []), b_lvs 0 [.inr (.inl 0), .inl (false, ([], 0))], ([], 0)) = true := by decide +kernel
theorem xi_C04_p {m : q_M} (hM : bi_M kc_I m) (hv : q_i m 0 5 = 4) : ∃ (n : Nat) (m1 : q_M), q_run q_D n q_m207 0 (lv_args 0 [.ref 0, .int 0]) [] m = some (some (.int 0), m1) ∧ bi_M kc_I m1 ∧ q_same [(0, 5, 5), (49, 0, 0), (49, 1, 1), (49, 2, 2), (49, 3, 3), (49, 4, 4), (49, 5, 5), (49, 6, 6), (50, 0, 19), (51, 0, 19), (52, 0, 19), (53, 0, 19), (54, 0, 19), (55, 0, 19), (56, 0, 5), (57, 0, 5), (58, 0, 5), (59, 0, 5), (60, 0, 119)] m m1 ∧ q_i m1 0 5 = 5 :=
  x_run2 (P := fun m => q_i m 0 5 = 5) (g := 0) (c := xi_C04) rfl xi_C04_k (fun d hd => by rw [List.mem_singleton.mp hd]; exact kb_221 x_K1 _) rfl (fun x hx _ T hT l zs m e f hM => by
    have e1 := List.mem_singleton.mp hx
    subst e1
    have e2 := List.mem_singleton.mp hT
    subst e2
    obtain ⟨z, z1, z2⟩ := x_O' (c := 0) (j := 5) (e.2.2.2.1 _ (List.mem_singleton.mpr rfl))
    have hv : q_i m 0 5 = 4 := z2.trans (b_is_uniq z1 (b_is_c 4))
    obtain ⟨w, w1, w2⟩ := (x_pl_0_5 hM).1
    have hw : w = 4 := x_i32 (show w.toInt = 4 by omega)
    subst hw
    obtain ⟨y0, q0, p0⟩ := f 0 (.inr (.inl 0)) rfl
    have p0 : y0 = .ref 0 := p0
    subst p0
    obtain ⟨y1, q1, w3, p1, p2⟩ := f 1 (.inl (false, ([], 0))) rfl
    have p2 : w3 = 0 := x_i32 (show w3.toInt = 0 from b_is_uniq p2 (b_is_c 0))
    subst p2
    subst p1
    obtain ⟨m1, k1, k2, k3, k4⟩ := x_tail hM q0 q1 w1
    refine ⟨10, m1, k1, k2, q_same.mono (fun c j hc => ?_) k3, ?_⟩
    · obtain ⟨w, hw, h1⟩ := hc
      exact ⟨w, by rw [List.mem_singleton.mp hw]; exact List.mem_cons_self, h1⟩
    · unfold q_i
      rw [k4]
      decide) (zs := []) ⟨rfl, x_B0, x_C0, x_M (x_O (x_pl_0_5 hM).1 (by rw [hv]; exact b_is_c 4)) x_M0, x_Q0⟩ (b_lvs_ok 0 ⟨rfl, ⟨0, rfl, b_is_c 0⟩, trivial⟩) hM
def xi_C05 : b_Con := (207, [.inr (.inl 0), .inl (false, (-2147483648), 2147483647)], [x_o], [(0, 5, 5), (49, 0, 0), (49, 1, 1), (49, 2, 2), (49, 3, 3), (49, 4, 4), (49, 5, 5), (49, 6, 6), (50, 0, 19), (51, 0, 19), (52, 0, 19), (53, 0, 19), (54, 0, 19), (55, 0, 19), (56, 0, 5), (57, 0, 5), (58, 0, 5), (59, 0, 5), (60, 0, 119)], [])
set_option maxRecDepth 100000 in
theorem xi_C05_k : b_chkG r_hk q_D kc_I r_fp 3000 xi_C05 [] [kc_221] []
   [(25, [], [], [((0, [], [], [(0, ([], 5), (false, ([], 5)))], []), [(0, .inr (.inl 0)), (1, .inl (false, ([], 0)))], ([], 0))])] 0 25
   ((0, [], [], [(0, ([], 5), (false, ([], 5)))], []), b_lvs 0 [.inr (.inl 0), .inl (false, ([], 0))], ([], 0)) = true := by decide +kernel
theorem xi_C05_p {m : q_M} (hM : bi_M kc_I m) (hv : q_i m 0 5 = 5) : ∃ (n : Nat) (m1 : q_M), q_run q_D n q_m207 0 (lv_args 0 [.ref 0, .int 0]) [] m = some (some (.int 0), m1) ∧ bi_M kc_I m1 ∧ q_same [(0, 5, 5), (49, 0, 0), (49, 1, 1), (49, 2, 2), (49, 3, 3), (49, 4, 4), (49, 5, 5), (49, 6, 6), (50, 0, 19), (51, 0, 19), (52, 0, 19), (53, 0, 19), (54, 0, 19), (55, 0, 19), (56, 0, 5), (57, 0, 5), (58, 0, 5), (59, 0, 5), (60, 0, 119)] m m1 ∧ q_i m1 0 5 = 5 :=
  x_run2 (P := fun m => q_i m 0 5 = 5) (g := 0) (c := xi_C05) rfl xi_C05_k (fun d hd => by rw [List.mem_singleton.mp hd]; exact kb_221 x_K1 _) rfl (fun x hx _ T hT l zs m e f hM => by
    have e1 := List.mem_singleton.mp hx
    subst e1
    have e2 := List.mem_singleton.mp hT
    subst e2
    obtain ⟨z, z1, z2⟩ := x_O' (c := 0) (j := 5) (e.2.2.2.1 _ (List.mem_singleton.mpr rfl))
    have hv : q_i m 0 5 = 5 := z2.trans (b_is_uniq z1 (b_is_c 5))
    obtain ⟨w, w1, w2⟩ := (x_pl_0_5 hM).1
    have hw : w = 5 := x_i32 (show w.toInt = 5 by omega)
    subst hw
    obtain ⟨y0, q0, p0⟩ := f 0 (.inr (.inl 0)) rfl
    have p0 : y0 = .ref 0 := p0
    subst p0
    obtain ⟨y1, q1, w3, p1, p2⟩ := f 1 (.inl (false, ([], 0))) rfl
    have p2 : w3 = 0 := x_i32 (show w3.toInt = 0 from b_is_uniq p2 (b_is_c 0))
    subst p2
    subst p1
    obtain ⟨m1, k1, k2, k3, k4⟩ := x_tail hM q0 q1 w1
    refine ⟨10, m1, k1, k2, q_same.mono (fun c j hc => ?_) k3, ?_⟩
    · obtain ⟨w, hw, h1⟩ := hc
      exact ⟨w, by rw [List.mem_singleton.mp hw]; exact List.mem_cons_self, h1⟩
    · unfold q_i
      rw [k4]
      decide) (zs := []) ⟨rfl, x_B0, x_C0, x_M (x_O (x_pl_0_5 hM).1 (by rw [hv]; exact b_is_c 5)) x_M0, x_Q0⟩ (b_lvs_ok 0 ⟨rfl, ⟨0, rfl, b_is_c 0⟩, trivial⟩) hM
def xi_C06 : b_Con := (207, [.inr (.inl 0), .inl (false, (-2147483648), 2147483647)], [x_o], [(0, 5, 5), (49, 0, 0), (49, 1, 1), (49, 2, 2), (49, 3, 3), (49, 4, 4), (49, 5, 5), (49, 6, 6), (50, 0, 19), (51, 0, 19), (52, 0, 19), (53, 0, 19), (54, 0, 19), (55, 0, 19), (56, 0, 5), (57, 0, 5), (58, 0, 5), (59, 0, 5), (60, 0, 119)], [])
set_option maxRecDepth 100000 in
theorem xi_C06_k : b_chkG r_hk q_D kc_I r_fp 3000 xi_C06 [] [kc_221] []
   [(25, [], [], [((0, [], [], [(0, ([], 5), (false, ([], 6)))], []), [(0, .inr (.inl 0)), (1, .inl (false, ([], 0)))], ([], 0))])] 0 25
   ((0, [], [], [(0, ([], 5), (false, ([], 6)))], []), b_lvs 0 [.inr (.inl 0), .inl (false, ([], 0))], ([], 0)) = true := by decide +kernel
theorem xi_C06_p {m : q_M} (hM : bi_M kc_I m) (hv : q_i m 0 5 = 6) : ∃ (n : Nat) (m1 : q_M), q_run q_D n q_m207 0 (lv_args 0 [.ref 0, .int 0]) [] m = some (some (.int 0), m1) ∧ bi_M kc_I m1 ∧ q_same [(0, 5, 5), (49, 0, 0), (49, 1, 1), (49, 2, 2), (49, 3, 3), (49, 4, 4), (49, 5, 5), (49, 6, 6), (50, 0, 19), (51, 0, 19), (52, 0, 19), (53, 0, 19), (54, 0, 19), (55, 0, 19), (56, 0, 5), (57, 0, 5), (58, 0, 5), (59, 0, 5), (60, 0, 119)] m m1 ∧ q_i m1 0 5 = 7 :=
  x_run2 (P := fun m => q_i m 0 5 = 7) (g := 0) (c := xi_C06) rfl xi_C06_k (fun d hd => by rw [List.mem_singleton.mp hd]; exact kb_221 x_K1 _) rfl (fun x hx _ T hT l zs m e f hM => by
    have e1 := List.mem_singleton.mp hx
    subst e1
    have e2 := List.mem_singleton.mp hT
    subst e2
    obtain ⟨z, z1, z2⟩ := x_O' (c := 0) (j := 5) (e.2.2.2.1 _ (List.mem_singleton.mpr rfl))
    have hv : q_i m 0 5 = 6 := z2.trans (b_is_uniq z1 (b_is_c 6))
    obtain ⟨w, w1, w2⟩ := (x_pl_0_5 hM).1
    have hw : w = 6 := x_i32 (show w.toInt = 6 by omega)
    subst hw
    obtain ⟨y0, q0, p0⟩ := f 0 (.inr (.inl 0)) rfl
    have p0 : y0 = .ref 0 := p0
    subst p0
    obtain ⟨y1, q1, w3, p1, p2⟩ := f 1 (.inl (false, ([], 0))) rfl
    have p2 : w3 = 0 := x_i32 (show w3.toInt = 0 from b_is_uniq p2 (b_is_c 0))
    subst p2
    subst p1
    obtain ⟨m1, k1, k2, k3, k4⟩ := x_tail hM q0 q1 w1
    refine ⟨10, m1, k1, k2, q_same.mono (fun c j hc => ?_) k3, ?_⟩
    · obtain ⟨w, hw, h1⟩ := hc
      exact ⟨w, by rw [List.mem_singleton.mp hw]; exact List.mem_cons_self, h1⟩
    · unfold q_i
      rw [k4]
      decide) (zs := []) ⟨rfl, x_B0, x_C0, x_M (x_O (x_pl_0_5 hM).1 (by rw [hv]; exact b_is_c 6)) x_M0, x_Q0⟩ (b_lvs_ok 0 ⟨rfl, ⟨0, rfl, b_is_c 0⟩, trivial⟩) hM
def xi_C07 : b_Con := (207, [.inr (.inl 0), .inl (false, (-2147483648), 2147483647)], [x_o], [(0, 5, 5), (49, 0, 0), (49, 1, 1), (49, 2, 2), (49, 3, 3), (49, 4, 4), (49, 5, 5), (49, 6, 6), (50, 0, 19), (51, 0, 19), (52, 0, 19), (53, 0, 19), (54, 0, 19), (55, 0, 19), (56, 0, 5), (57, 0, 5), (58, 0, 5), (59, 0, 5), (60, 0, 119)], [])
set_option maxRecDepth 100000 in
theorem xi_C07_k : b_chkG r_hk q_D kc_I r_fp 3000 xi_C07 [] [kc_221] []
   [(25, [], [], [((0, [], [], [(0, ([], 5), (false, ([], 7)))], []), [(0, .inr (.inl 0)), (1, .inl (false, ([], 0)))], ([], 0))])] 0 25
   ((0, [], [], [(0, ([], 5), (false, ([], 7)))], []), b_lvs 0 [.inr (.inl 0), .inl (false, ([], 0))], ([], 0)) = true := by decide +kernel
theorem xi_C07_p {m : q_M} (hM : bi_M kc_I m) (hv : q_i m 0 5 = 7) : ∃ (n : Nat) (m1 : q_M), q_run q_D n q_m207 0 (lv_args 0 [.ref 0, .int 0]) [] m = some (some (.int 0), m1) ∧ bi_M kc_I m1 ∧ q_same [(0, 5, 5), (49, 0, 0), (49, 1, 1), (49, 2, 2), (49, 3, 3), (49, 4, 4), (49, 5, 5), (49, 6, 6), (50, 0, 19), (51, 0, 19), (52, 0, 19), (53, 0, 19), (54, 0, 19), (55, 0, 19), (56, 0, 5), (57, 0, 5), (58, 0, 5), (59, 0, 5), (60, 0, 119)] m m1 ∧ q_i m1 0 5 = 7 :=
  x_run2 (P := fun m => q_i m 0 5 = 7) (g := 0) (c := xi_C07) rfl xi_C07_k (fun d hd => by rw [List.mem_singleton.mp hd]; exact kb_221 x_K1 _) rfl (fun x hx _ T hT l zs m e f hM => by
    have e1 := List.mem_singleton.mp hx
    subst e1
    have e2 := List.mem_singleton.mp hT
    subst e2
    obtain ⟨z, z1, z2⟩ := x_O' (c := 0) (j := 5) (e.2.2.2.1 _ (List.mem_singleton.mpr rfl))
    have hv : q_i m 0 5 = 7 := z2.trans (b_is_uniq z1 (b_is_c 7))
    obtain ⟨w, w1, w2⟩ := (x_pl_0_5 hM).1
    have hw : w = 7 := x_i32 (show w.toInt = 7 by omega)
    subst hw
    obtain ⟨y0, q0, p0⟩ := f 0 (.inr (.inl 0)) rfl
    have p0 : y0 = .ref 0 := p0
    subst p0
    obtain ⟨y1, q1, w3, p1, p2⟩ := f 1 (.inl (false, ([], 0))) rfl
    have p2 : w3 = 0 := x_i32 (show w3.toInt = 0 from b_is_uniq p2 (b_is_c 0))
    subst p2
    subst p1
    obtain ⟨m1, k1, k2, k3, k4⟩ := x_tail hM q0 q1 w1
    refine ⟨10, m1, k1, k2, q_same.mono (fun c j hc => ?_) k3, ?_⟩
    · obtain ⟨w, hw, h1⟩ := hc
      exact ⟨w, by rw [List.mem_singleton.mp hw]; exact List.mem_cons_self, h1⟩
    · unfold q_i
      rw [k4]
      decide) (zs := []) ⟨rfl, x_B0, x_C0, x_M (x_O (x_pl_0_5 hM).1 (by rw [hv]; exact b_is_c 7)) x_M0, x_Q0⟩ (b_lvs_ok 0 ⟨rfl, ⟨0, rfl, b_is_c 0⟩, trivial⟩) hM
def xi_C10 : b_Con := (207, [.inr (.inl 0), .inl (false, (-2147483648), 2147483647)], [x_o], [(0, 5, 5), (61, 0, 0), (61, 1, 1), (61, 2, 2), (61, 3, 3), (61, 4, 4), (61, 5, 5), (61, 6, 6), (62, 0, 19), (63, 0, 19), (64, 0, 19), (65, 0, 19), (66, 0, 19), (67, 0, 19), (68, 0, 5), (69, 0, 5), (70, 0, 5), (71, 0, 5), (72, 0, 119)], [])
set_option maxRecDepth 100000 in
theorem xi_C10_k : b_chkG r_hk q_D kc_I r_fp 3000 xi_C10 [] [kc_222] []
   [(25, [], [], [((0, [], [], [(0, ([], 5), (false, ([], 0)))], []), [(0, .inr (.inl 0)), (1, .inl (false, ([], 1)))], ([], 0))])] 0 25
   ((0, [], [], [(0, ([], 5), (false, ([], 0)))], []), b_lvs 0 [.inr (.inl 0), .inl (false, ([], 1))], ([], 0)) = true := by decide +kernel
theorem xi_C10_p {m : q_M} (hM : bi_M kc_I m) (hv : q_i m 0 5 = 0) : ∃ (n : Nat) (m1 : q_M), q_run q_D n q_m207 0 (lv_args 0 [.ref 0, .int 1]) [] m = some (some (.int 0), m1) ∧ bi_M kc_I m1 ∧ q_same [(0, 5, 5), (61, 0, 0), (61, 1, 1), (61, 2, 2), (61, 3, 3), (61, 4, 4), (61, 5, 5), (61, 6, 6), (62, 0, 19), (63, 0, 19), (64, 0, 19), (65, 0, 19), (66, 0, 19), (67, 0, 19), (68, 0, 5), (69, 0, 5), (70, 0, 5), (71, 0, 5), (72, 0, 119)] m m1 ∧ q_i m1 0 5 = 2 :=
  x_run2 (P := fun m => q_i m 0 5 = 2) (g := 0) (c := xi_C10) rfl xi_C10_k (fun d hd => by rw [List.mem_singleton.mp hd]; exact kb_222 x_K1 _) rfl (fun x hx _ T hT l zs m e f hM => by
    have e1 := List.mem_singleton.mp hx
    subst e1
    have e2 := List.mem_singleton.mp hT
    subst e2
    obtain ⟨z, z1, z2⟩ := x_O' (c := 0) (j := 5) (e.2.2.2.1 _ (List.mem_singleton.mpr rfl))
    have hv : q_i m 0 5 = 0 := z2.trans (b_is_uniq z1 (b_is_c 0))
    obtain ⟨w, w1, w2⟩ := (x_pl_0_5 hM).1
    have hw : w = 0 := x_i32 (show w.toInt = 0 by omega)
    subst hw
    obtain ⟨y0, q0, p0⟩ := f 0 (.inr (.inl 0)) rfl
    have p0 : y0 = .ref 0 := p0
    subst p0
    obtain ⟨y1, q1, w3, p1, p2⟩ := f 1 (.inl (false, ([], 1))) rfl
    have p2 : w3 = 1 := x_i32 (show w3.toInt = 1 from b_is_uniq p2 (b_is_c 1))
    subst p2
    subst p1
    obtain ⟨m1, k1, k2, k3, k4⟩ := x_tail hM q0 q1 w1
    refine ⟨10, m1, k1, k2, q_same.mono (fun c j hc => ?_) k3, ?_⟩
    · obtain ⟨w, hw, h1⟩ := hc
      exact ⟨w, by rw [List.mem_singleton.mp hw]; exact List.mem_cons_self, h1⟩
    · unfold q_i
      rw [k4]
      decide) (zs := []) ⟨rfl, x_B0, x_C0, x_M (x_O (x_pl_0_5 hM).1 (by rw [hv]; exact b_is_c 0)) x_M0, x_Q0⟩ (b_lvs_ok 0 ⟨rfl, ⟨1, rfl, b_is_c 1⟩, trivial⟩) hM
def xi_C11 : b_Con := (207, [.inr (.inl 0), .inl (false, (-2147483648), 2147483647)], [x_o], [(0, 5, 5), (61, 0, 0), (61, 1, 1), (61, 2, 2), (61, 3, 3), (61, 4, 4), (61, 5, 5), (61, 6, 6), (62, 0, 19), (63, 0, 19), (64, 0, 19), (65, 0, 19), (66, 0, 19), (67, 0, 19), (68, 0, 5), (69, 0, 5), (70, 0, 5), (71, 0, 5), (72, 0, 119)], [])
set_option maxRecDepth 100000 in
theorem xi_C11_k : b_chkG r_hk q_D kc_I r_fp 3000 xi_C11 [] [kc_222] []
   [(25, [], [], [((0, [], [], [(0, ([], 5), (false, ([], 1)))], []), [(0, .inr (.inl 0)), (1, .inl (false, ([], 1)))], ([], 0))])] 0 25
   ((0, [], [], [(0, ([], 5), (false, ([], 1)))], []), b_lvs 0 [.inr (.inl 0), .inl (false, ([], 1))], ([], 0)) = true := by decide +kernel
theorem xi_C11_p {m : q_M} (hM : bi_M kc_I m) (hv : q_i m 0 5 = 1) : ∃ (n : Nat) (m1 : q_M), q_run q_D n q_m207 0 (lv_args 0 [.ref 0, .int 1]) [] m = some (some (.int 0), m1) ∧ bi_M kc_I m1 ∧ q_same [(0, 5, 5), (61, 0, 0), (61, 1, 1), (61, 2, 2), (61, 3, 3), (61, 4, 4), (61, 5, 5), (61, 6, 6), (62, 0, 19), (63, 0, 19), (64, 0, 19), (65, 0, 19), (66, 0, 19), (67, 0, 19), (68, 0, 5), (69, 0, 5), (70, 0, 5), (71, 0, 5), (72, 0, 119)] m m1 ∧ q_i m1 0 5 = 3 :=
  x_run2 (P := fun m => q_i m 0 5 = 3) (g := 0) (c := xi_C11) rfl xi_C11_k (fun d hd => by rw [List.mem_singleton.mp hd]; exact kb_222 x_K1 _) rfl (fun x hx _ T hT l zs m e f hM => by
    have e1 := List.mem_singleton.mp hx
    subst e1
    have e2 := List.mem_singleton.mp hT
    subst e2
    obtain ⟨z, z1, z2⟩ := x_O' (c := 0) (j := 5) (e.2.2.2.1 _ (List.mem_singleton.mpr rfl))
    have hv : q_i m 0 5 = 1 := z2.trans (b_is_uniq z1 (b_is_c 1))
    obtain ⟨w, w1, w2⟩ := (x_pl_0_5 hM).1
    have hw : w = 1 := x_i32 (show w.toInt = 1 by omega)
    subst hw
    obtain ⟨y0, q0, p0⟩ := f 0 (.inr (.inl 0)) rfl
    have p0 : y0 = .ref 0 := p0
    subst p0
    obtain ⟨y1, q1, w3, p1, p2⟩ := f 1 (.inl (false, ([], 1))) rfl
    have p2 : w3 = 1 := x_i32 (show w3.toInt = 1 from b_is_uniq p2 (b_is_c 1))
    subst p2
    subst p1
    obtain ⟨m1, k1, k2, k3, k4⟩ := x_tail hM q0 q1 w1
    refine ⟨10, m1, k1, k2, q_same.mono (fun c j hc => ?_) k3, ?_⟩
    · obtain ⟨w, hw, h1⟩ := hc
      exact ⟨w, by rw [List.mem_singleton.mp hw]; exact List.mem_cons_self, h1⟩
    · unfold q_i
      rw [k4]
      decide) (zs := []) ⟨rfl, x_B0, x_C0, x_M (x_O (x_pl_0_5 hM).1 (by rw [hv]; exact b_is_c 1)) x_M0, x_Q0⟩ (b_lvs_ok 0 ⟨rfl, ⟨1, rfl, b_is_c 1⟩, trivial⟩) hM
def xi_C12 : b_Con := (207, [.inr (.inl 0), .inl (false, (-2147483648), 2147483647)], [x_o], [(0, 5, 5), (61, 0, 0), (61, 1, 1), (61, 2, 2), (61, 3, 3), (61, 4, 4), (61, 5, 5), (61, 6, 6), (62, 0, 19), (63, 0, 19), (64, 0, 19), (65, 0, 19), (66, 0, 19), (67, 0, 19), (68, 0, 5), (69, 0, 5), (70, 0, 5), (71, 0, 5), (72, 0, 119)], [])
set_option maxRecDepth 100000 in
theorem xi_C12_k : b_chkG r_hk q_D kc_I r_fp 3000 xi_C12 [] [kc_222] []
   [(25, [], [], [((0, [], [], [(0, ([], 5), (false, ([], 2)))], []), [(0, .inr (.inl 0)), (1, .inl (false, ([], 1)))], ([], 0))])] 0 25
   ((0, [], [], [(0, ([], 5), (false, ([], 2)))], []), b_lvs 0 [.inr (.inl 0), .inl (false, ([], 1))], ([], 0)) = true := by decide +kernel
theorem xi_C12_p {m : q_M} (hM : bi_M kc_I m) (hv : q_i m 0 5 = 2) : ∃ (n : Nat) (m1 : q_M), q_run q_D n q_m207 0 (lv_args 0 [.ref 0, .int 1]) [] m = some (some (.int 0), m1) ∧ bi_M kc_I m1 ∧ q_same [(0, 5, 5), (61, 0, 0), (61, 1, 1), (61, 2, 2), (61, 3, 3), (61, 4, 4), (61, 5, 5), (61, 6, 6), (62, 0, 19), (63, 0, 19), (64, 0, 19), (65, 0, 19), (66, 0, 19), (67, 0, 19), (68, 0, 5), (69, 0, 5), (70, 0, 5), (71, 0, 5), (72, 0, 119)] m m1 ∧ q_i m1 0 5 = 2 :=
  x_run2 (P := fun m => q_i m 0 5 = 2) (g := 0) (c := xi_C12) rfl xi_C12_k (fun d hd => by rw [List.mem_singleton.mp hd]; exact kb_222 x_K1 _) rfl (fun x hx _ T hT l zs m e f hM => by
    have e1 := List.mem_singleton.mp hx
    subst e1
    have e2 := List.mem_singleton.mp hT
    subst e2
    obtain ⟨z, z1, z2⟩ := x_O' (c := 0) (j := 5) (e.2.2.2.1 _ (List.mem_singleton.mpr rfl))
    have hv : q_i m 0 5 = 2 := z2.trans (b_is_uniq z1 (b_is_c 2))
    obtain ⟨w, w1, w2⟩ := (x_pl_0_5 hM).1
    have hw : w = 2 := x_i32 (show w.toInt = 2 by omega)
    subst hw
    obtain ⟨y0, q0, p0⟩ := f 0 (.inr (.inl 0)) rfl
    have p0 : y0 = .ref 0 := p0
    subst p0
    obtain ⟨y1, q1, w3, p1, p2⟩ := f 1 (.inl (false, ([], 1))) rfl
    have p2 : w3 = 1 := x_i32 (show w3.toInt = 1 from b_is_uniq p2 (b_is_c 1))
    subst p2
    subst p1
    obtain ⟨m1, k1, k2, k3, k4⟩ := x_tail hM q0 q1 w1
    refine ⟨10, m1, k1, k2, q_same.mono (fun c j hc => ?_) k3, ?_⟩
    · obtain ⟨w, hw, h1⟩ := hc
      exact ⟨w, by rw [List.mem_singleton.mp hw]; exact List.mem_cons_self, h1⟩
    · unfold q_i
      rw [k4]
      decide) (zs := []) ⟨rfl, x_B0, x_C0, x_M (x_O (x_pl_0_5 hM).1 (by rw [hv]; exact b_is_c 2)) x_M0, x_Q0⟩ (b_lvs_ok 0 ⟨rfl, ⟨1, rfl, b_is_c 1⟩, trivial⟩) hM
def xi_C13 : b_Con := (207, [.inr (.inl 0), .inl (false, (-2147483648), 2147483647)], [x_o], [(0, 5, 5), (61, 0, 0), (61, 1, 1), (61, 2, 2), (61, 3, 3), (61, 4, 4), (61, 5, 5), (61, 6, 6), (62, 0, 19), (63, 0, 19), (64, 0, 19), (65, 0, 19), (66, 0, 19), (67, 0, 19), (68, 0, 5), (69, 0, 5), (70, 0, 5), (71, 0, 5), (72, 0, 119)], [])
set_option maxRecDepth 100000 in
theorem xi_C13_k : b_chkG r_hk q_D kc_I r_fp 3000 xi_C13 [] [kc_222] []
   [(25, [], [], [((0, [], [], [(0, ([], 5), (false, ([], 3)))], []), [(0, .inr (.inl 0)), (1, .inl (false, ([], 1)))], ([], 0))])] 0 25
   ((0, [], [], [(0, ([], 5), (false, ([], 3)))], []), b_lvs 0 [.inr (.inl 0), .inl (false, ([], 1))], ([], 0)) = true := by decide +kernel
theorem xi_C13_p {m : q_M} (hM : bi_M kc_I m) (hv : q_i m 0 5 = 3) : ∃ (n : Nat) (m1 : q_M), q_run q_D n q_m207 0 (lv_args 0 [.ref 0, .int 1]) [] m = some (some (.int 0), m1) ∧ bi_M kc_I m1 ∧ q_same [(0, 5, 5), (61, 0, 0), (61, 1, 1), (61, 2, 2), (61, 3, 3), (61, 4, 4), (61, 5, 5), (61, 6, 6), (62, 0, 19), (63, 0, 19), (64, 0, 19), (65, 0, 19), (66, 0, 19), (67, 0, 19), (68, 0, 5), (69, 0, 5), (70, 0, 5), (71, 0, 5), (72, 0, 119)] m m1 ∧ q_i m1 0 5 = 3 :=
  x_run2 (P := fun m => q_i m 0 5 = 3) (g := 0) (c := xi_C13) rfl xi_C13_k (fun d hd => by rw [List.mem_singleton.mp hd]; exact kb_222 x_K1 _) rfl (fun x hx _ T hT l zs m e f hM => by
    have e1 := List.mem_singleton.mp hx
    subst e1
    have e2 := List.mem_singleton.mp hT
    subst e2
    obtain ⟨z, z1, z2⟩ := x_O' (c := 0) (j := 5) (e.2.2.2.1 _ (List.mem_singleton.mpr rfl))
    have hv : q_i m 0 5 = 3 := z2.trans (b_is_uniq z1 (b_is_c 3))
    obtain ⟨w, w1, w2⟩ := (x_pl_0_5 hM).1
    have hw : w = 3 := x_i32 (show w.toInt = 3 by omega)
    subst hw
    obtain ⟨y0, q0, p0⟩ := f 0 (.inr (.inl 0)) rfl
    have p0 : y0 = .ref 0 := p0
    subst p0
    obtain ⟨y1, q1, w3, p1, p2⟩ := f 1 (.inl (false, ([], 1))) rfl
    have p2 : w3 = 1 := x_i32 (show w3.toInt = 1 from b_is_uniq p2 (b_is_c 1))
    subst p2
    subst p1
    obtain ⟨m1, k1, k2, k3, k4⟩ := x_tail hM q0 q1 w1
    refine ⟨10, m1, k1, k2, q_same.mono (fun c j hc => ?_) k3, ?_⟩
    · obtain ⟨w, hw, h1⟩ := hc
      exact ⟨w, by rw [List.mem_singleton.mp hw]; exact List.mem_cons_self, h1⟩
    · unfold q_i
      rw [k4]
      decide) (zs := []) ⟨rfl, x_B0, x_C0, x_M (x_O (x_pl_0_5 hM).1 (by rw [hv]; exact b_is_c 3)) x_M0, x_Q0⟩ (b_lvs_ok 0 ⟨rfl, ⟨1, rfl, b_is_c 1⟩, trivial⟩) hM
def xi_C14 : b_Con := (207, [.inr (.inl 0), .inl (false, (-2147483648), 2147483647)], [x_o], [(0, 5, 5), (61, 0, 0), (61, 1, 1), (61, 2, 2), (61, 3, 3), (61, 4, 4), (61, 5, 5), (61, 6, 6), (62, 0, 19), (63, 0, 19), (64, 0, 19), (65, 0, 19), (66, 0, 19), (67, 0, 19), (68, 0, 5), (69, 0, 5), (70, 0, 5), (71, 0, 5), (72, 0, 119)], [])
set_option maxRecDepth 100000 in
theorem xi_C14_k : b_chkG r_hk q_D kc_I r_fp 3000 xi_C14 [] [kc_222] []
   [(25, [], [], [((0, [], [], [(0, ([], 5), (false, ([], 4)))], []), [(0, .inr (.inl 0)), (1, .inl (false, ([], 1)))], ([], 0))])] 0 25
   ((0, [], [], [(0, ([], 5), (false, ([], 4)))], []), b_lvs 0 [.inr (.inl 0), .inl (false, ([], 1))], ([], 0)) = true := by decide +kernel
theorem xi_C14_p {m : q_M} (hM : bi_M kc_I m) (hv : q_i m 0 5 = 4) : ∃ (n : Nat) (m1 : q_M), q_run q_D n q_m207 0 (lv_args 0 [.ref 0, .int 1]) [] m = some (some (.int 0), m1) ∧ bi_M kc_I m1 ∧ q_same [(0, 5, 5), (61, 0, 0), (61, 1, 1), (61, 2, 2), (61, 3, 3), (61, 4, 4), (61, 5, 5), (61, 6, 6), (62, 0, 19), (63, 0, 19), (64, 0, 19), (65, 0, 19), (66, 0, 19), (67, 0, 19), (68, 0, 5), (69, 0, 5), (70, 0, 5), (71, 0, 5), (72, 0, 119)] m m1 ∧ q_i m1 0 5 = 6 :=
  x_run2 (P := fun m => q_i m 0 5 = 6) (g := 0) (c := xi_C14) rfl xi_C14_k (fun d hd => by rw [List.mem_singleton.mp hd]; exact kb_222 x_K1 _) rfl (fun x hx _ T hT l zs m e f hM => by
    have e1 := List.mem_singleton.mp hx
    subst e1
    have e2 := List.mem_singleton.mp hT
    subst e2
    obtain ⟨z, z1, z2⟩ := x_O' (c := 0) (j := 5) (e.2.2.2.1 _ (List.mem_singleton.mpr rfl))
    have hv : q_i m 0 5 = 4 := z2.trans (b_is_uniq z1 (b_is_c 4))
    obtain ⟨w, w1, w2⟩ := (x_pl_0_5 hM).1
    have hw : w = 4 := x_i32 (show w.toInt = 4 by omega)
    subst hw
    obtain ⟨y0, q0, p0⟩ := f 0 (.inr (.inl 0)) rfl
    have p0 : y0 = .ref 0 := p0
    subst p0
    obtain ⟨y1, q1, w3, p1, p2⟩ := f 1 (.inl (false, ([], 1))) rfl
    have p2 : w3 = 1 := x_i32 (show w3.toInt = 1 from b_is_uniq p2 (b_is_c 1))
    subst p2
    subst p1
    obtain ⟨m1, k1, k2, k3, k4⟩ := x_tail hM q0 q1 w1
    refine ⟨10, m1, k1, k2, q_same.mono (fun c j hc => ?_) k3, ?_⟩
    · obtain ⟨w, hw, h1⟩ := hc
      exact ⟨w, by rw [List.mem_singleton.mp hw]; exact List.mem_cons_self, h1⟩
    · unfold q_i
      rw [k4]
      decide) (zs := []) ⟨rfl, x_B0, x_C0, x_M (x_O (x_pl_0_5 hM).1 (by rw [hv]; exact b_is_c 4)) x_M0, x_Q0⟩ (b_lvs_ok 0 ⟨rfl, ⟨1, rfl, b_is_c 1⟩, trivial⟩) hM
def xi_C15 : b_Con := (207, [.inr (.inl 0), .inl (false, (-2147483648), 2147483647)], [x_o], [(0, 5, 5), (61, 0, 0), (61, 1, 1), (61, 2, 2), (61, 3, 3), (61, 4, 4), (61, 5, 5), (61, 6, 6), (62, 0, 19), (63, 0, 19), (64, 0, 19), (65, 0, 19), (66, 0, 19), (67, 0, 19), (68, 0, 5), (69, 0, 5), (70, 0, 5), (71, 0, 5), (72, 0, 119)], [])
set_option maxRecDepth 100000 in
theorem xi_C15_k : b_chkG r_hk q_D kc_I r_fp 3000 xi_C15 [] [kc_222] []
   [(25, [], [], [((0, [], [], [(0, ([], 5), (false, ([], 5)))], []), [(0, .inr (.inl 0)), (1, .inl (false, ([], 1)))], ([], 0))])] 0 25
   ((0, [], [], [(0, ([], 5), (false, ([], 5)))], []), b_lvs 0 [.inr (.inl 0), .inl (false, ([], 1))], ([], 0)) = true := by decide +kernel
theorem xi_C15_p {m : q_M} (hM : bi_M kc_I m) (hv : q_i m 0 5 = 5) : ∃ (n : Nat) (m1 : q_M), q_run q_D n q_m207 0 (lv_args 0 [.ref 0, .int 1]) [] m = some (some (.int 0), m1) ∧ bi_M kc_I m1 ∧ q_same [(0, 5, 5), (61, 0, 0), (61, 1, 1), (61, 2, 2), (61, 3, 3), (61, 4, 4), (61, 5, 5), (61, 6, 6), (62, 0, 19), (63, 0, 19), (64, 0, 19), (65, 0, 19), (66, 0, 19), (67, 0, 19), (68, 0, 5), (69, 0, 5), (70, 0, 5), (71, 0, 5), (72, 0, 119)] m m1 ∧ q_i m1 0 5 = 7 :=
  x_run2 (P := fun m => q_i m 0 5 = 7) (g := 0) (c := xi_C15) rfl xi_C15_k (fun d hd => by rw [List.mem_singleton.mp hd]; exact kb_222 x_K1 _) rfl (fun x hx _ T hT l zs m e f hM => by
    have e1 := List.mem_singleton.mp hx
    subst e1
    have e2 := List.mem_singleton.mp hT
    subst e2
    obtain ⟨z, z1, z2⟩ := x_O' (c := 0) (j := 5) (e.2.2.2.1 _ (List.mem_singleton.mpr rfl))
    have hv : q_i m 0 5 = 5 := z2.trans (b_is_uniq z1 (b_is_c 5))
    obtain ⟨w, w1, w2⟩ := (x_pl_0_5 hM).1
    have hw : w = 5 := x_i32 (show w.toInt = 5 by omega)
    subst hw
    obtain ⟨y0, q0, p0⟩ := f 0 (.inr (.inl 0)) rfl
    have p0 : y0 = .ref 0 := p0
    subst p0
    obtain ⟨y1, q1, w3, p1, p2⟩ := f 1 (.inl (false, ([], 1))) rfl
    have p2 : w3 = 1 := x_i32 (show w3.toInt = 1 from b_is_uniq p2 (b_is_c 1))
    subst p2
    subst p1
    obtain ⟨m1, k1, k2, k3, k4⟩ := x_tail hM q0 q1 w1
    refine ⟨10, m1, k1, k2, q_same.mono (fun c j hc => ?_) k3, ?_⟩
    · obtain ⟨w, hw, h1⟩ := hc
      exact ⟨w, by rw [List.mem_singleton.mp hw]; exact List.mem_cons_self, h1⟩
    · unfold q_i
      rw [k4]
      decide) (zs := []) ⟨rfl, x_B0, x_C0, x_M (x_O (x_pl_0_5 hM).1 (by rw [hv]; exact b_is_c 5)) x_M0, x_Q0⟩ (b_lvs_ok 0 ⟨rfl, ⟨1, rfl, b_is_c 1⟩, trivial⟩) hM
def xi_C16 : b_Con := (207, [.inr (.inl 0), .inl (false, (-2147483648), 2147483647)], [x_o], [(0, 5, 5), (61, 0, 0), (61, 1, 1), (61, 2, 2), (61, 3, 3), (61, 4, 4), (61, 5, 5), (61, 6, 6), (62, 0, 19), (63, 0, 19), (64, 0, 19), (65, 0, 19), (66, 0, 19), (67, 0, 19), (68, 0, 5), (69, 0, 5), (70, 0, 5), (71, 0, 5), (72, 0, 119)], [])
set_option maxRecDepth 100000 in
theorem xi_C16_k : b_chkG r_hk q_D kc_I r_fp 3000 xi_C16 [] [kc_222] []
   [(25, [], [], [((0, [], [], [(0, ([], 5), (false, ([], 6)))], []), [(0, .inr (.inl 0)), (1, .inl (false, ([], 1)))], ([], 0))])] 0 25
   ((0, [], [], [(0, ([], 5), (false, ([], 6)))], []), b_lvs 0 [.inr (.inl 0), .inl (false, ([], 1))], ([], 0)) = true := by decide +kernel
theorem xi_C16_p {m : q_M} (hM : bi_M kc_I m) (hv : q_i m 0 5 = 6) : ∃ (n : Nat) (m1 : q_M), q_run q_D n q_m207 0 (lv_args 0 [.ref 0, .int 1]) [] m = some (some (.int 0), m1) ∧ bi_M kc_I m1 ∧ q_same [(0, 5, 5), (61, 0, 0), (61, 1, 1), (61, 2, 2), (61, 3, 3), (61, 4, 4), (61, 5, 5), (61, 6, 6), (62, 0, 19), (63, 0, 19), (64, 0, 19), (65, 0, 19), (66, 0, 19), (67, 0, 19), (68, 0, 5), (69, 0, 5), (70, 0, 5), (71, 0, 5), (72, 0, 119)] m m1 ∧ q_i m1 0 5 = 6 :=
  x_run2 (P := fun m => q_i m 0 5 = 6) (g := 0) (c := xi_C16) rfl xi_C16_k (fun d hd => by rw [List.mem_singleton.mp hd]; exact kb_222 x_K1 _) rfl (fun x hx _ T hT l zs m e f hM => by
    have e1 := List.mem_singleton.mp hx
    subst e1
    have e2 := List.mem_singleton.mp hT
    subst e2
    obtain ⟨z, z1, z2⟩ := x_O' (c := 0) (j := 5) (e.2.2.2.1 _ (List.mem_singleton.mpr rfl))
    have hv : q_i m 0 5 = 6 := z2.trans (b_is_uniq z1 (b_is_c 6))
    obtain ⟨w, w1, w2⟩ := (x_pl_0_5 hM).1
    have hw : w = 6 := x_i32 (show w.toInt = 6 by omega)
    subst hw
    obtain ⟨y0, q0, p0⟩ := f 0 (.inr (.inl 0)) rfl
    have p0 : y0 = .ref 0 := p0
    subst p0
    obtain ⟨y1, q1, w3, p1, p2⟩ := f 1 (.inl (false, ([], 1))) rfl
    have p2 : w3 = 1 := x_i32 (show w3.toInt = 1 from b_is_uniq p2 (b_is_c 1))
    subst p2
    subst p1
    obtain ⟨m1, k1, k2, k3, k4⟩ := x_tail hM q0 q1 w1
    refine ⟨10, m1, k1, k2, q_same.mono (fun c j hc => ?_) k3, ?_⟩
    · obtain ⟨w, hw, h1⟩ := hc
      exact ⟨w, by rw [List.mem_singleton.mp hw]; exact List.mem_cons_self, h1⟩
    · unfold q_i
      rw [k4]
      decide) (zs := []) ⟨rfl, x_B0, x_C0, x_M (x_O (x_pl_0_5 hM).1 (by rw [hv]; exact b_is_c 6)) x_M0, x_Q0⟩ (b_lvs_ok 0 ⟨rfl, ⟨1, rfl, b_is_c 1⟩, trivial⟩) hM
def xi_C17 : b_Con := (207, [.inr (.inl 0), .inl (false, (-2147483648), 2147483647)], [x_o], [(0, 5, 5), (61, 0, 0), (61, 1, 1), (61, 2, 2), (61, 3, 3), (61, 4, 4), (61, 5, 5), (61, 6, 6), (62, 0, 19), (63, 0, 19), (64, 0, 19), (65, 0, 19), (66, 0, 19), (67, 0, 19), (68, 0, 5), (69, 0, 5), (70, 0, 5), (71, 0, 5), (72, 0, 119)], [])
set_option maxRecDepth 100000 in
theorem xi_C17_k : b_chkG r_hk q_D kc_I r_fp 3000 xi_C17 [] [kc_222] []
   [(25, [], [], [((0, [], [], [(0, ([], 5), (false, ([], 7)))], []), [(0, .inr (.inl 0)), (1, .inl (false, ([], 1)))], ([], 0))])] 0 25
   ((0, [], [], [(0, ([], 5), (false, ([], 7)))], []), b_lvs 0 [.inr (.inl 0), .inl (false, ([], 1))], ([], 0)) = true := by decide +kernel
theorem xi_C17_p {m : q_M} (hM : bi_M kc_I m) (hv : q_i m 0 5 = 7) : ∃ (n : Nat) (m1 : q_M), q_run q_D n q_m207 0 (lv_args 0 [.ref 0, .int 1]) [] m = some (some (.int 0), m1) ∧ bi_M kc_I m1 ∧ q_same [(0, 5, 5), (61, 0, 0), (61, 1, 1), (61, 2, 2), (61, 3, 3), (61, 4, 4), (61, 5, 5), (61, 6, 6), (62, 0, 19), (63, 0, 19), (64, 0, 19), (65, 0, 19), (66, 0, 19), (67, 0, 19), (68, 0, 5), (69, 0, 5), (70, 0, 5), (71, 0, 5), (72, 0, 119)] m m1 ∧ q_i m1 0 5 = 7 :=
  x_run2 (P := fun m => q_i m 0 5 = 7) (g := 0) (c := xi_C17) rfl xi_C17_k (fun d hd => by rw [List.mem_singleton.mp hd]; exact kb_222 x_K1 _) rfl (fun x hx _ T hT l zs m e f hM => by
    have e1 := List.mem_singleton.mp hx
    subst e1
    have e2 := List.mem_singleton.mp hT
    subst e2
    obtain ⟨z, z1, z2⟩ := x_O' (c := 0) (j := 5) (e.2.2.2.1 _ (List.mem_singleton.mpr rfl))
    have hv : q_i m 0 5 = 7 := z2.trans (b_is_uniq z1 (b_is_c 7))
    obtain ⟨w, w1, w2⟩ := (x_pl_0_5 hM).1
    have hw : w = 7 := x_i32 (show w.toInt = 7 by omega)
    subst hw
    obtain ⟨y0, q0, p0⟩ := f 0 (.inr (.inl 0)) rfl
    have p0 : y0 = .ref 0 := p0
    subst p0
    obtain ⟨y1, q1, w3, p1, p2⟩ := f 1 (.inl (false, ([], 1))) rfl
    have p2 : w3 = 1 := x_i32 (show w3.toInt = 1 from b_is_uniq p2 (b_is_c 1))
    subst p2
    subst p1
    obtain ⟨m1, k1, k2, k3, k4⟩ := x_tail hM q0 q1 w1
    refine ⟨10, m1, k1, k2, q_same.mono (fun c j hc => ?_) k3, ?_⟩
    · obtain ⟨w, hw, h1⟩ := hc
      exact ⟨w, by rw [List.mem_singleton.mp hw]; exact List.mem_cons_self, h1⟩
    · unfold q_i
      rw [k4]
      decide) (zs := []) ⟨rfl, x_B0, x_C0, x_M (x_O (x_pl_0_5 hM).1 (by rw [hv]; exact b_is_c 7)) x_M0, x_Q0⟩ (b_lvs_ok 0 ⟨rfl, ⟨1, rfl, b_is_c 1⟩, trivial⟩) hM
def xi_C20 : b_Con := (207, [.inr (.inl 0), .inl (false, (-2147483648), 2147483647)], [x_o], [(0, 5, 5), (73, 0, 0), (73, 1, 1), (73, 2, 2), (73, 3, 3), (73, 4, 4), (73, 5, 5), (73, 6, 6), (74, 0, 19), (75, 0, 19), (76, 0, 19), (77, 0, 19), (78, 0, 19), (79, 0, 19), (80, 0, 5), (81, 0, 5), (82, 0, 5), (83, 0, 5), (84, 0, 119)], [])
set_option maxRecDepth 100000 in
theorem xi_C20_k : b_chkG r_hk q_D kc_I r_fp 3000 xi_C20 [] [kc_223] []
   [(25, [], [], [((0, [], [], [(0, ([], 5), (false, ([], 0)))], []), [(0, .inr (.inl 0)), (1, .inl (false, ([], 2)))], ([], 0))])] 0 25
   ((0, [], [], [(0, ([], 5), (false, ([], 0)))], []), b_lvs 0 [.inr (.inl 0), .inl (false, ([], 2))], ([], 0)) = true := by decide +kernel
theorem xi_C20_p {m : q_M} (hM : bi_M kc_I m) (hv : q_i m 0 5 = 0) : ∃ (n : Nat) (m1 : q_M), q_run q_D n q_m207 0 (lv_args 0 [.ref 0, .int 2]) [] m = some (some (.int 0), m1) ∧ bi_M kc_I m1 ∧ q_same [(0, 5, 5), (73, 0, 0), (73, 1, 1), (73, 2, 2), (73, 3, 3), (73, 4, 4), (73, 5, 5), (73, 6, 6), (74, 0, 19), (75, 0, 19), (76, 0, 19), (77, 0, 19), (78, 0, 19), (79, 0, 19), (80, 0, 5), (81, 0, 5), (82, 0, 5), (83, 0, 5), (84, 0, 119)] m m1 ∧ q_i m1 0 5 = 4 :=
  x_run2 (P := fun m => q_i m 0 5 = 4) (g := 0) (c := xi_C20) rfl xi_C20_k (fun d hd => by rw [List.mem_singleton.mp hd]; exact kb_223 x_K1 _) rfl (fun x hx _ T hT l zs m e f hM => by
    have e1 := List.mem_singleton.mp hx
    subst e1
    have e2 := List.mem_singleton.mp hT
    subst e2
    obtain ⟨z, z1, z2⟩ := x_O' (c := 0) (j := 5) (e.2.2.2.1 _ (List.mem_singleton.mpr rfl))
    have hv : q_i m 0 5 = 0 := z2.trans (b_is_uniq z1 (b_is_c 0))
    obtain ⟨w, w1, w2⟩ := (x_pl_0_5 hM).1
    have hw : w = 0 := x_i32 (show w.toInt = 0 by omega)
    subst hw
    obtain ⟨y0, q0, p0⟩ := f 0 (.inr (.inl 0)) rfl
    have p0 : y0 = .ref 0 := p0
    subst p0
    obtain ⟨y1, q1, w3, p1, p2⟩ := f 1 (.inl (false, ([], 2))) rfl
    have p2 : w3 = 2 := x_i32 (show w3.toInt = 2 from b_is_uniq p2 (b_is_c 2))
    subst p2
    subst p1
    obtain ⟨m1, k1, k2, k3, k4⟩ := x_tail hM q0 q1 w1
    refine ⟨10, m1, k1, k2, q_same.mono (fun c j hc => ?_) k3, ?_⟩
    · obtain ⟨w, hw, h1⟩ := hc
      exact ⟨w, by rw [List.mem_singleton.mp hw]; exact List.mem_cons_self, h1⟩
    · unfold q_i
      rw [k4]
      decide) (zs := []) ⟨rfl, x_B0, x_C0, x_M (x_O (x_pl_0_5 hM).1 (by rw [hv]; exact b_is_c 0)) x_M0, x_Q0⟩ (b_lvs_ok 0 ⟨rfl, ⟨2, rfl, b_is_c 2⟩, trivial⟩) hM
def xi_C21 : b_Con := (207, [.inr (.inl 0), .inl (false, (-2147483648), 2147483647)], [x_o], [(0, 5, 5), (73, 0, 0), (73, 1, 1), (73, 2, 2), (73, 3, 3), (73, 4, 4), (73, 5, 5), (73, 6, 6), (74, 0, 19), (75, 0, 19), (76, 0, 19), (77, 0, 19), (78, 0, 19), (79, 0, 19), (80, 0, 5), (81, 0, 5), (82, 0, 5), (83, 0, 5), (84, 0, 119)], [])
set_option maxRecDepth 100000 in
theorem xi_C21_k : b_chkG r_hk q_D kc_I r_fp 3000 xi_C21 [] [kc_223] []
   [(25, [], [], [((0, [], [], [(0, ([], 5), (false, ([], 1)))], []), [(0, .inr (.inl 0)), (1, .inl (false, ([], 2)))], ([], 0))])] 0 25
   ((0, [], [], [(0, ([], 5), (false, ([], 1)))], []), b_lvs 0 [.inr (.inl 0), .inl (false, ([], 2))], ([], 0)) = true := by decide +kernel
theorem xi_C21_p {m : q_M} (hM : bi_M kc_I m) (hv : q_i m 0 5 = 1) : ∃ (n : Nat) (m1 : q_M), q_run q_D n q_m207 0 (lv_args 0 [.ref 0, .int 2]) [] m = some (some (.int 0), m1) ∧ bi_M kc_I m1 ∧ q_same [(0, 5, 5), (73, 0, 0), (73, 1, 1), (73, 2, 2), (73, 3, 3), (73, 4, 4), (73, 5, 5), (73, 6, 6), (74, 0, 19), (75, 0, 19), (76, 0, 19), (77, 0, 19), (78, 0, 19), (79, 0, 19), (80, 0, 5), (81, 0, 5), (82, 0, 5), (83, 0, 5), (84, 0, 119)] m m1 ∧ q_i m1 0 5 = 5 :=
  x_run2 (P := fun m => q_i m 0 5 = 5) (g := 0) (c := xi_C21) rfl xi_C21_k (fun d hd => by rw [List.mem_singleton.mp hd]; exact kb_223 x_K1 _) rfl (fun x hx _ T hT l zs m e f hM => by
    have e1 := List.mem_singleton.mp hx
    subst e1
    have e2 := List.mem_singleton.mp hT
    subst e2
    obtain ⟨z, z1, z2⟩ := x_O' (c := 0) (j := 5) (e.2.2.2.1 _ (List.mem_singleton.mpr rfl))
    have hv : q_i m 0 5 = 1 := z2.trans (b_is_uniq z1 (b_is_c 1))
    obtain ⟨w, w1, w2⟩ := (x_pl_0_5 hM).1
    have hw : w = 1 := x_i32 (show w.toInt = 1 by omega)
    subst hw
    obtain ⟨y0, q0, p0⟩ := f 0 (.inr (.inl 0)) rfl
    have p0 : y0 = .ref 0 := p0
    subst p0
    obtain ⟨y1, q1, w3, p1, p2⟩ := f 1 (.inl (false, ([], 2))) rfl
    have p2 : w3 = 2 := x_i32 (show w3.toInt = 2 from b_is_uniq p2 (b_is_c 2))
    subst p2
    subst p1
    obtain ⟨m1, k1, k2, k3, k4⟩ := x_tail hM q0 q1 w1
    refine ⟨10, m1, k1, k2, q_same.mono (fun c j hc => ?_) k3, ?_⟩
    · obtain ⟨w, hw, h1⟩ := hc
      exact ⟨w, by rw [List.mem_singleton.mp hw]; exact List.mem_cons_self, h1⟩
    · unfold q_i
      rw [k4]
      decide) (zs := []) ⟨rfl, x_B0, x_C0, x_M (x_O (x_pl_0_5 hM).1 (by rw [hv]; exact b_is_c 1)) x_M0, x_Q0⟩ (b_lvs_ok 0 ⟨rfl, ⟨2, rfl, b_is_c 2⟩, trivial⟩) hM
def xi_C22 : b_Con := (207, [.inr (.inl 0), .inl (false, (-2147483648), 2147483647)], [x_o], [(0, 5, 5), (73, 0, 0), (73, 1, 1), (73, 2, 2), (73, 3, 3), (73, 4, 4), (73, 5, 5), (73, 6, 6), (74, 0, 19), (75, 0, 19), (76, 0, 19), (77, 0, 19), (78, 0, 19), (79, 0, 19), (80, 0, 5), (81, 0, 5), (82, 0, 5), (83, 0, 5), (84, 0, 119)], [])
set_option maxRecDepth 100000 in
theorem xi_C22_k : b_chkG r_hk q_D kc_I r_fp 3000 xi_C22 [] [kc_223] []
   [(25, [], [], [((0, [], [], [(0, ([], 5), (false, ([], 2)))], []), [(0, .inr (.inl 0)), (1, .inl (false, ([], 2)))], ([], 0))])] 0 25
   ((0, [], [], [(0, ([], 5), (false, ([], 2)))], []), b_lvs 0 [.inr (.inl 0), .inl (false, ([], 2))], ([], 0)) = true := by decide +kernel
theorem xi_C22_p {m : q_M} (hM : bi_M kc_I m) (hv : q_i m 0 5 = 2) : ∃ (n : Nat) (m1 : q_M), q_run q_D n q_m207 0 (lv_args 0 [.ref 0, .int 2]) [] m = some (some (.int 0), m1) ∧ bi_M kc_I m1 ∧ q_same [(0, 5, 5), (73, 0, 0), (73, 1, 1), (73, 2, 2), (73, 3, 3), (73, 4, 4), (73, 5, 5), (73, 6, 6), (74, 0, 19), (75, 0, 19), (76, 0, 19), (77, 0, 19), (78, 0, 19), (79, 0, 19), (80, 0, 5), (81, 0, 5), (82, 0, 5), (83, 0, 5), (84, 0, 119)] m m1 ∧ q_i m1 0 5 = 6 :=
  x_run2 (P := fun m => q_i m 0 5 = 6) (g := 0) (c := xi_C22) rfl xi_C22_k (fun d hd => by rw [List.mem_singleton.mp hd]; exact kb_223 x_K1 _) rfl (fun x hx _ T hT l zs m e f hM => by
    have e1 := List.mem_singleton.mp hx
    subst e1
    have e2 := List.mem_singleton.mp hT
    subst e2
    obtain ⟨z, z1, z2⟩ := x_O' (c := 0) (j := 5) (e.2.2.2.1 _ (List.mem_singleton.mpr rfl))
    have hv : q_i m 0 5 = 2 := z2.trans (b_is_uniq z1 (b_is_c 2))
    obtain ⟨w, w1, w2⟩ := (x_pl_0_5 hM).1
    have hw : w = 2 := x_i32 (show w.toInt = 2 by omega)
    subst hw
    obtain ⟨y0, q0, p0⟩ := f 0 (.inr (.inl 0)) rfl
    have p0 : y0 = .ref 0 := p0
    subst p0
    obtain ⟨y1, q1, w3, p1, p2⟩ := f 1 (.inl (false, ([], 2))) rfl
    have p2 : w3 = 2 := x_i32 (show w3.toInt = 2 from b_is_uniq p2 (b_is_c 2))
    subst p2
    subst p1
    obtain ⟨m1, k1, k2, k3, k4⟩ := x_tail hM q0 q1 w1
    refine ⟨10, m1, k1, k2, q_same.mono (fun c j hc => ?_) k3, ?_⟩
    · obtain ⟨w, hw, h1⟩ := hc
      exact ⟨w, by rw [List.mem_singleton.mp hw]; exact List.mem_cons_self, h1⟩
    · unfold q_i
      rw [k4]
      decide) (zs := []) ⟨rfl, x_B0, x_C0, x_M (x_O (x_pl_0_5 hM).1 (by rw [hv]; exact b_is_c 2)) x_M0, x_Q0⟩ (b_lvs_ok 0 ⟨rfl, ⟨2, rfl, b_is_c 2⟩, trivial⟩) hM
def xi_C23 : b_Con := (207, [.inr (.inl 0), .inl (false, (-2147483648), 2147483647)], [x_o], [(0, 5, 5), (73, 0, 0), (73, 1, 1), (73, 2, 2), (73, 3, 3), (73, 4, 4), (73, 5, 5), (73, 6, 6), (74, 0, 19), (75, 0, 19), (76, 0, 19), (77, 0, 19), (78, 0, 19), (79, 0, 19), (80, 0, 5), (81, 0, 5), (82, 0, 5), (83, 0, 5), (84, 0, 119)], [])
set_option maxRecDepth 100000 in
theorem xi_C23_k : b_chkG r_hk q_D kc_I r_fp 3000 xi_C23 [] [kc_223] []
   [(25, [], [], [((0, [], [], [(0, ([], 5), (false, ([], 3)))], []), [(0, .inr (.inl 0)), (1, .inl (false, ([], 2)))], ([], 0))])] 0 25
   ((0, [], [], [(0, ([], 5), (false, ([], 3)))], []), b_lvs 0 [.inr (.inl 0), .inl (false, ([], 2))], ([], 0)) = true := by decide +kernel
theorem xi_C23_p {m : q_M} (hM : bi_M kc_I m) (hv : q_i m 0 5 = 3) : ∃ (n : Nat) (m1 : q_M), q_run q_D n q_m207 0 (lv_args 0 [.ref 0, .int 2]) [] m = some (some (.int 0), m1) ∧ bi_M kc_I m1 ∧ q_same [(0, 5, 5), (73, 0, 0), (73, 1, 1), (73, 2, 2), (73, 3, 3), (73, 4, 4), (73, 5, 5), (73, 6, 6), (74, 0, 19), (75, 0, 19), (76, 0, 19), (77, 0, 19), (78, 0, 19), (79, 0, 19), (80, 0, 5), (81, 0, 5), (82, 0, 5), (83, 0, 5), (84, 0, 119)] m m1 ∧ q_i m1 0 5 = 7 :=
  x_run2 (P := fun m => q_i m 0 5 = 7) (g := 0) (c := xi_C23) rfl xi_C23_k (fun d hd => by rw [List.mem_singleton.mp hd]; exact kb_223 x_K1 _) rfl (fun x hx _ T hT l zs m e f hM => by
    have e1 := List.mem_singleton.mp hx
    subst e1
    have e2 := List.mem_singleton.mp hT
    subst e2
    obtain ⟨z, z1, z2⟩ := x_O' (c := 0) (j := 5) (e.2.2.2.1 _ (List.mem_singleton.mpr rfl))
    have hv : q_i m 0 5 = 3 := z2.trans (b_is_uniq z1 (b_is_c 3))
    obtain ⟨w, w1, w2⟩ := (x_pl_0_5 hM).1
    have hw : w = 3 := x_i32 (show w.toInt = 3 by omega)
    subst hw
    obtain ⟨y0, q0, p0⟩ := f 0 (.inr (.inl 0)) rfl
    have p0 : y0 = .ref 0 := p0
    subst p0
    obtain ⟨y1, q1, w3, p1, p2⟩ := f 1 (.inl (false, ([], 2))) rfl
    have p2 : w3 = 2 := x_i32 (show w3.toInt = 2 from b_is_uniq p2 (b_is_c 2))
    subst p2
    subst p1
    obtain ⟨m1, k1, k2, k3, k4⟩ := x_tail hM q0 q1 w1
    refine ⟨10, m1, k1, k2, q_same.mono (fun c j hc => ?_) k3, ?_⟩
    · obtain ⟨w, hw, h1⟩ := hc
      exact ⟨w, by rw [List.mem_singleton.mp hw]; exact List.mem_cons_self, h1⟩
    · unfold q_i
      rw [k4]
      decide) (zs := []) ⟨rfl, x_B0, x_C0, x_M (x_O (x_pl_0_5 hM).1 (by rw [hv]; exact b_is_c 3)) x_M0, x_Q0⟩ (b_lvs_ok 0 ⟨rfl, ⟨2, rfl, b_is_c 2⟩, trivial⟩) hM
def xi_C24 : b_Con := (207, [.inr (.inl 0), .inl (false, (-2147483648), 2147483647)], [x_o], [(0, 5, 5), (73, 0, 0), (73, 1, 1), (73, 2, 2), (73, 3, 3), (73, 4, 4), (73, 5, 5), (73, 6, 6), (74, 0, 19), (75, 0, 19), (76, 0, 19), (77, 0, 19), (78, 0, 19), (79, 0, 19), (80, 0, 5), (81, 0, 5), (82, 0, 5), (83, 0, 5), (84, 0, 119)], [])
set_option maxRecDepth 100000 in
theorem xi_C24_k : b_chkG r_hk q_D kc_I r_fp 3000 xi_C24 [] [kc_223] []
   [(25, [], [], [((0, [], [], [(0, ([], 5), (false, ([], 4)))], []), [(0, .inr (.inl 0)), (1, .inl (false, ([], 2)))], ([], 0))])] 0 25
   ((0, [], [], [(0, ([], 5), (false, ([], 4)))], []), b_lvs 0 [.inr (.inl 0), .inl (false, ([], 2))], ([], 0)) = true := by decide +kernel
theorem xi_C24_p {m : q_M} (hM : bi_M kc_I m) (hv : q_i m 0 5 = 4) : ∃ (n : Nat) (m1 : q_M), q_run q_D n q_m207 0 (lv_args 0 [.ref 0, .int 2]) [] m = some (some (.int 0), m1) ∧ bi_M kc_I m1 ∧ q_same [(0, 5, 5), (73, 0, 0), (73, 1, 1), (73, 2, 2), (73, 3, 3), (73, 4, 4), (73, 5, 5), (73, 6, 6), (74, 0, 19), (75, 0, 19), (76, 0, 19), (77, 0, 19), (78, 0, 19), (79, 0, 19), (80, 0, 5), (81, 0, 5), (82, 0, 5), (83, 0, 5), (84, 0, 119)] m m1 ∧ q_i m1 0 5 = 4 :=
  x_run2 (P := fun m => q_i m 0 5 = 4) (g := 0) (c := xi_C24) rfl xi_C24_k (fun d hd => by rw [List.mem_singleton.mp hd]; exact kb_223 x_K1 _) rfl (fun x hx _ T hT l zs m e f hM => by
    have e1 := List.mem_singleton.mp hx
    subst e1
    have e2 := List.mem_singleton.mp hT
    subst e2
    obtain ⟨z, z1, z2⟩ := x_O' (c := 0) (j := 5) (e.2.2.2.1 _ (List.mem_singleton.mpr rfl))
    have hv : q_i m 0 5 = 4 := z2.trans (b_is_uniq z1 (b_is_c 4))
    obtain ⟨w, w1, w2⟩ := (x_pl_0_5 hM).1
    have hw : w = 4 := x_i32 (show w.toInt = 4 by omega)
    subst hw
    obtain ⟨y0, q0, p0⟩ := f 0 (.inr (.inl 0)) rfl
    have p0 : y0 = .ref 0 := p0
    subst p0
    obtain ⟨y1, q1, w3, p1, p2⟩ := f 1 (.inl (false, ([], 2))) rfl
    have p2 : w3 = 2 := x_i32 (show w3.toInt = 2 from b_is_uniq p2 (b_is_c 2))
    subst p2
    subst p1
    obtain ⟨m1, k1, k2, k3, k4⟩ := x_tail hM q0 q1 w1
    refine ⟨10, m1, k1, k2, q_same.mono (fun c j hc => ?_) k3, ?_⟩
    · obtain ⟨w, hw, h1⟩ := hc
      exact ⟨w, by rw [List.mem_singleton.mp hw]; exact List.mem_cons_self, h1⟩
    · unfold q_i
      rw [k4]
      decide) (zs := []) ⟨rfl, x_B0, x_C0, x_M (x_O (x_pl_0_5 hM).1 (by rw [hv]; exact b_is_c 4)) x_M0, x_Q0⟩ (b_lvs_ok 0 ⟨rfl, ⟨2, rfl, b_is_c 2⟩, trivial⟩) hM
def xi_C25 : b_Con := (207, [.inr (.inl 0), .inl (false, (-2147483648), 2147483647)], [x_o], [(0, 5, 5), (73, 0, 0), (73, 1, 1), (73, 2, 2), (73, 3, 3), (73, 4, 4), (73, 5, 5), (73, 6, 6), (74, 0, 19), (75, 0, 19), (76, 0, 19), (77, 0, 19), (78, 0, 19), (79, 0, 19), (80, 0, 5), (81, 0, 5), (82, 0, 5), (83, 0, 5), (84, 0, 119)], [])
set_option maxRecDepth 100000 in
theorem xi_C25_k : b_chkG r_hk q_D kc_I r_fp 3000 xi_C25 [] [kc_223] []
   [(25, [], [], [((0, [], [], [(0, ([], 5), (false, ([], 5)))], []), [(0, .inr (.inl 0)), (1, .inl (false, ([], 2)))], ([], 0))])] 0 25
   ((0, [], [], [(0, ([], 5), (false, ([], 5)))], []), b_lvs 0 [.inr (.inl 0), .inl (false, ([], 2))], ([], 0)) = true := by decide +kernel
theorem xi_C25_p {m : q_M} (hM : bi_M kc_I m) (hv : q_i m 0 5 = 5) : ∃ (n : Nat) (m1 : q_M), q_run q_D n q_m207 0 (lv_args 0 [.ref 0, .int 2]) [] m = some (some (.int 0), m1) ∧ bi_M kc_I m1 ∧ q_same [(0, 5, 5), (73, 0, 0), (73, 1, 1), (73, 2, 2), (73, 3, 3), (73, 4, 4), (73, 5, 5), (73, 6, 6), (74, 0, 19), (75, 0, 19), (76, 0, 19), (77, 0, 19), (78, 0, 19), (79, 0, 19), (80, 0, 5), (81, 0, 5), (82, 0, 5), (83, 0, 5), (84, 0, 119)] m m1 ∧ q_i m1 0 5 = 5 :=
  x_run2 (P := fun m => q_i m 0 5 = 5) (g := 0) (c := xi_C25) rfl xi_C25_k (fun d hd => by rw [List.mem_singleton.mp hd]; exact kb_223 x_K1 _) rfl (fun x hx _ T hT l zs m e f hM => by
    have e1 := List.mem_singleton.mp hx
    subst e1
    have e2 := List.mem_singleton.mp hT
    subst e2
    obtain ⟨z, z1, z2⟩ := x_O' (c := 0) (j := 5) (e.2.2.2.1 _ (List.mem_singleton.mpr rfl))
    have hv : q_i m 0 5 = 5 := z2.trans (b_is_uniq z1 (b_is_c 5))
    obtain ⟨w, w1, w2⟩ := (x_pl_0_5 hM).1
    have hw : w = 5 := x_i32 (show w.toInt = 5 by omega)
    subst hw
    obtain ⟨y0, q0, p0⟩ := f 0 (.inr (.inl 0)) rfl
    have p0 : y0 = .ref 0 := p0
    subst p0
    obtain ⟨y1, q1, w3, p1, p2⟩ := f 1 (.inl (false, ([], 2))) rfl
    have p2 : w3 = 2 := x_i32 (show w3.toInt = 2 from b_is_uniq p2 (b_is_c 2))
    subst p2
    subst p1
    obtain ⟨m1, k1, k2, k3, k4⟩ := x_tail hM q0 q1 w1
    refine ⟨10, m1, k1, k2, q_same.mono (fun c j hc => ?_) k3, ?_⟩
    · obtain ⟨w, hw, h1⟩ := hc
      exact ⟨w, by rw [List.mem_singleton.mp hw]; exact List.mem_cons_self, h1⟩
    · unfold q_i
      rw [k4]
      decide) (zs := []) ⟨rfl, x_B0, x_C0, x_M (x_O (x_pl_0_5 hM).1 (by rw [hv]; exact b_is_c 5)) x_M0, x_Q0⟩ (b_lvs_ok 0 ⟨rfl, ⟨2, rfl, b_is_c 2⟩, trivial⟩) hM
def xi_C26 : b_Con := (207, [.inr (.inl 0), .inl (false, (-2147483648), 2147483647)], [x_o], [(0, 5, 5), (73, 0, 0), (73, 1, 1), (73, 2, 2), (73, 3, 3), (73, 4, 4), (73, 5, 5), (73, 6, 6), (74, 0, 19), (75, 0, 19), (76, 0, 19), (77, 0, 19), (78, 0, 19), (79, 0, 19), (80, 0, 5), (81, 0, 5), (82, 0, 5), (83, 0, 5), (84, 0, 119)], [])
set_option maxRecDepth 100000 in
theorem xi_C26_k : b_chkG r_hk q_D kc_I r_fp 3000 xi_C26 [] [kc_223] []
   [(25, [], [], [((0, [], [], [(0, ([], 5), (false, ([], 6)))], []), [(0, .inr (.inl 0)), (1, .inl (false, ([], 2)))], ([], 0))])] 0 25
   ((0, [], [], [(0, ([], 5), (false, ([], 6)))], []), b_lvs 0 [.inr (.inl 0), .inl (false, ([], 2))], ([], 0)) = true := by decide +kernel
theorem xi_C26_p {m : q_M} (hM : bi_M kc_I m) (hv : q_i m 0 5 = 6) : ∃ (n : Nat) (m1 : q_M), q_run q_D n q_m207 0 (lv_args 0 [.ref 0, .int 2]) [] m = some (some (.int 0), m1) ∧ bi_M kc_I m1 ∧ q_same [(0, 5, 5), (73, 0, 0), (73, 1, 1), (73, 2, 2), (73, 3, 3), (73, 4, 4), (73, 5, 5), (73, 6, 6), (74, 0, 19), (75, 0, 19), (76, 0, 19), (77, 0, 19), (78, 0, 19), (79, 0, 19), (80, 0, 5), (81, 0, 5), (82, 0, 5), (83, 0, 5), (84, 0, 119)] m m1 ∧ q_i m1 0 5 = 6 :=
  x_run2 (P := fun m => q_i m 0 5 = 6) (g := 0) (c := xi_C26) rfl xi_C26_k (fun d hd => by rw [List.mem_singleton.mp hd]; exact kb_223 x_K1 _) rfl (fun x hx _ T hT l zs m e f hM => by
    have e1 := List.mem_singleton.mp hx
    subst e1
    have e2 := List.mem_singleton.mp hT
    subst e2
    obtain ⟨z, z1, z2⟩ := x_O' (c := 0) (j := 5) (e.2.2.2.1 _ (List.mem_singleton.mpr rfl))
    have hv : q_i m 0 5 = 6 := z2.trans (b_is_uniq z1 (b_is_c 6))
    obtain ⟨w, w1, w2⟩ := (x_pl_0_5 hM).1
    have hw : w = 6 := x_i32 (show w.toInt = 6 by omega)
    subst hw
    obtain ⟨y0, q0, p0⟩ := f 0 (.inr (.inl 0)) rfl
    have p0 : y0 = .ref 0 := p0
    subst p0
    obtain ⟨y1, q1, w3, p1, p2⟩ := f 1 (.inl (false, ([], 2))) rfl
    have p2 : w3 = 2 := x_i32 (show w3.toInt = 2 from b_is_uniq p2 (b_is_c 2))
    subst p2
    subst p1
    obtain ⟨m1, k1, k2, k3, k4⟩ := x_tail hM q0 q1 w1
    refine ⟨10, m1, k1, k2, q_same.mono (fun c j hc => ?_) k3, ?_⟩
    · obtain ⟨w, hw, h1⟩ := hc
      exact ⟨w, by rw [List.mem_singleton.mp hw]; exact List.mem_cons_self, h1⟩
    · unfold q_i
      rw [k4]
      decide) (zs := []) ⟨rfl, x_B0, x_C0, x_M (x_O (x_pl_0_5 hM).1 (by rw [hv]; exact b_is_c 6)) x_M0, x_Q0⟩ (b_lvs_ok 0 ⟨rfl, ⟨2, rfl, b_is_c 2⟩, trivial⟩) hM
def xi_C27 : b_Con := (207, [.inr (.inl 0), .inl (false, (-2147483648), 2147483647)], [x_o], [(0, 5, 5), (73, 0, 0), (73, 1, 1), (73, 2, 2), (73, 3, 3), (73, 4, 4), (73, 5, 5), (73, 6, 6), (74, 0, 19), (75, 0, 19), (76, 0, 19), (77, 0, 19), (78, 0, 19), (79, 0, 19), (80, 0, 5), (81, 0, 5), (82, 0, 5), (83, 0, 5), (84, 0, 119)], [])
set_option maxRecDepth 100000 in
theorem xi_C27_k : b_chkG r_hk q_D kc_I r_fp 3000 xi_C27 [] [kc_223] []
   [(25, [], [], [((0, [], [], [(0, ([], 5), (false, ([], 7)))], []), [(0, .inr (.inl 0)), (1, .inl (false, ([], 2)))], ([], 0))])] 0 25
   ((0, [], [], [(0, ([], 5), (false, ([], 7)))], []), b_lvs 0 [.inr (.inl 0), .inl (false, ([], 2))], ([], 0)) = true := by decide +kernel
theorem xi_C27_p {m : q_M} (hM : bi_M kc_I m) (hv : q_i m 0 5 = 7) : ∃ (n : Nat) (m1 : q_M), q_run q_D n q_m207 0 (lv_args 0 [.ref 0, .int 2]) [] m = some (some (.int 0), m1) ∧ bi_M kc_I m1 ∧ q_same [(0, 5, 5), (73, 0, 0), (73, 1, 1), (73, 2, 2), (73, 3, 3), (73, 4, 4), (73, 5, 5), (73, 6, 6), (74, 0, 19), (75, 0, 19), (76, 0, 19), (77, 0, 19), (78, 0, 19), (79, 0, 19), (80, 0, 5), (81, 0, 5), (82, 0, 5), (83, 0, 5), (84, 0, 119)] m m1 ∧ q_i m1 0 5 = 7 :=
  x_run2 (P := fun m => q_i m 0 5 = 7) (g := 0) (c := xi_C27) rfl xi_C27_k (fun d hd => by rw [List.mem_singleton.mp hd]; exact kb_223 x_K1 _) rfl (fun x hx _ T hT l zs m e f hM => by
    have e1 := List.mem_singleton.mp hx
    subst e1
    have e2 := List.mem_singleton.mp hT
    subst e2
    obtain ⟨z, z1, z2⟩ := x_O' (c := 0) (j := 5) (e.2.2.2.1 _ (List.mem_singleton.mpr rfl))
    have hv : q_i m 0 5 = 7 := z2.trans (b_is_uniq z1 (b_is_c 7))
    obtain ⟨w, w1, w2⟩ := (x_pl_0_5 hM).1
    have hw : w = 7 := x_i32 (show w.toInt = 7 by omega)
    subst hw
    obtain ⟨y0, q0, p0⟩ := f 0 (.inr (.inl 0)) rfl
    have p0 : y0 = .ref 0 := p0
    subst p0
    obtain ⟨y1, q1, w3, p1, p2⟩ := f 1 (.inl (false, ([], 2))) rfl
    have p2 : w3 = 2 := x_i32 (show w3.toInt = 2 from b_is_uniq p2 (b_is_c 2))
    subst p2
    subst p1
    obtain ⟨m1, k1, k2, k3, k4⟩ := x_tail hM q0 q1 w1
    refine ⟨10, m1, k1, k2, q_same.mono (fun c j hc => ?_) k3, ?_⟩
    · obtain ⟨w, hw, h1⟩ := hc
      exact ⟨w, by rw [List.mem_singleton.mp hw]; exact List.mem_cons_self, h1⟩
    · unfold q_i
      rw [k4]
      decide) (zs := []) ⟨rfl, x_B0, x_C0, x_M (x_O (x_pl_0_5 hM).1 (by rw [hv]; exact b_is_c 7)) x_M0, x_Q0⟩ (b_lvs_ok 0 ⟨rfl, ⟨2, rfl, b_is_c 2⟩, trivial⟩) hM
def xi_M0 : b_Con := (217, [.inr (.inl 93), .inl (false, (-2147483648), 2147483647)], [x_o], [(95, 0, 276), (96, 0, 0)], [])
set_option maxRecDepth 100000 in
theorem xi_M0_k : b_chkG r_hk q_D kc_I r_fp 3000 xi_M0 [218] [] []
   [(17, [], [], [((1, [(0, 0, 277)], [], [], [(43, [([], 0)])]), [(0, .inr (.inl 93)), (1, .inl (false, ([], 0))), (2, .inl (false, ([(0, 1)], 0)))], ([(0, (-1))], 300))]), (55, [], [], [((1, [(0, 0, 277)], [], [(96, ([], 0), (false, ([], 1)))], []), [(0, .inr (.inl 93)), (1, .inl (false, ([], 0))), (2, .inl (false, ([(0, 1)], 0)))], ([], 0))])] 0 55
   ((0, [], [], [], [(43, [([], 0)])]), b_lvs 0 [.inr (.inl 93), .inl (false, ([], 0))], ([], 0)) = true := by decide +kernel
theorem xi_M0_p {m : q_M} (hM : bi_M kc_I m) : ∃ (n : Nat) (m1 : q_M), q_run q_D n q_m217 0 (lv_args 0 [.ref 93, .int 0]) [] m = some (some (.int 0), m1) ∧ bi_M kc_I m1 ∧ q_same [(95, 0, 276), (96, 0, 0)] m m1 ∧ q_i m1 96 0 = 1 :=
  x_run (P := fun m => q_i m 96 0 = 1) (g := 0) (c := xi_M0) rfl xi_M0_k (fun d hd => by cases hd) rfl (fun _ _ => rfl) (fun x hx hl T hT zs m e => by
    rcases List.mem_cons.mp hx with e1 | e1
    · subst e1
      exact absurd hl (by decide)
    have e1 := List.mem_singleton.mp e1
    subst e1
    have e2 := List.mem_singleton.mp hT
    subst e2
    obtain ⟨z, z1, z2⟩ := x_O' (c := 96) (j := 0) (e.2.2.2.1 _ (List.mem_singleton.mpr rfl))
    exact z2.trans (b_is_uniq z1 (b_is_c 1))) (zs := []) ⟨rfl, x_B0, x_C0, x_M0, x_Q ⟨[0], ⟨b_is_c 0, trivial⟩, rfl⟩ x_Q0⟩ (b_lvs_ok 0 ⟨rfl, ⟨0, rfl, b_is_c 0⟩, trivial⟩) hM
def xi_M1 : b_Con := (217, [.inr (.inl 93), .inl (false, (-2147483648), 2147483647)], [x_o], [(95, 277, 553), (96, 1, 1)], [])
set_option maxRecDepth 100000 in
theorem xi_M1_k : b_chkG r_hk q_D kc_I r_fp 3000 xi_M1 [218] [] []
   [(17, [], [], [((1, [(0, 0, 277)], [], [], [(43, [([], 0)])]), [(0, .inr (.inl 93)), (1, .inl (false, ([], 1))), (2, .inl (false, ([(0, 1)], 0)))], ([(0, (-1))], 300))]), (55, [], [], [((1, [(0, 0, 277)], [], [(96, ([], 1), (false, ([], 1)))], []), [(0, .inr (.inl 93)), (1, .inl (false, ([], 1))), (2, .inl (false, ([(0, 1)], 0)))], ([], 0))])] 0 55
   ((0, [], [], [], [(43, [([], 0)])]), b_lvs 0 [.inr (.inl 93), .inl (false, ([], 1))], ([], 0)) = true := by decide +kernel
theorem xi_M1_p {m : q_M} (hM : bi_M kc_I m) : ∃ (n : Nat) (m1 : q_M), q_run q_D n q_m217 0 (lv_args 0 [.ref 93, .int 1]) [] m = some (some (.int 0), m1) ∧ bi_M kc_I m1 ∧ q_same [(95, 277, 553), (96, 1, 1)] m m1 ∧ q_i m1 96 1 = 1 :=
  x_run (P := fun m => q_i m 96 1 = 1) (g := 0) (c := xi_M1) rfl xi_M1_k (fun d hd => by cases hd) rfl (fun _ _ => rfl) (fun x hx hl T hT zs m e => by
    rcases List.mem_cons.mp hx with e1 | e1
    · subst e1
      exact absurd hl (by decide)
    have e1 := List.mem_singleton.mp e1
    subst e1
    have e2 := List.mem_singleton.mp hT
    subst e2
    obtain ⟨z, z1, z2⟩ := x_O' (c := 96) (j := 1) (e.2.2.2.1 _ (List.mem_singleton.mpr rfl))
    exact z2.trans (b_is_uniq z1 (b_is_c 1))) (zs := []) ⟨rfl, x_B0, x_C0, x_M0, x_Q ⟨[0], ⟨b_is_c 0, trivial⟩, rfl⟩ x_Q0⟩ (b_lvs_ok 0 ⟨rfl, ⟨1, rfl, b_is_c 1⟩, trivial⟩) hM
def xi_M2 : b_Con := (217, [.inr (.inl 93), .inl (false, (-2147483648), 2147483647)], [x_o], [(95, 554, 830), (96, 2, 2)], [])
set_option maxRecDepth 100000 in
theorem xi_M2_k : b_chkG r_hk q_D kc_I r_fp 3000 xi_M2 [218] [] []
   [(17, [], [], [((1, [(0, 0, 277)], [], [], [(43, [([], 0)])]), [(0, .inr (.inl 93)), (1, .inl (false, ([], 2))), (2, .inl (false, ([(0, 1)], 0)))], ([(0, (-1))], 300))]), (55, [], [], [((1, [(0, 0, 277)], [], [(96, ([], 2), (false, ([], 1)))], []), [(0, .inr (.inl 93)), (1, .inl (false, ([], 2))), (2, .inl (false, ([(0, 1)], 0)))], ([], 0))])] 0 55
   ((0, [], [], [], [(43, [([], 0)])]), b_lvs 0 [.inr (.inl 93), .inl (false, ([], 2))], ([], 0)) = true := by decide +kernel
theorem xi_M2_p {m : q_M} (hM : bi_M kc_I m) : ∃ (n : Nat) (m1 : q_M), q_run q_D n q_m217 0 (lv_args 0 [.ref 93, .int 2]) [] m = some (some (.int 0), m1) ∧ bi_M kc_I m1 ∧ q_same [(95, 554, 830), (96, 2, 2)] m m1 ∧ q_i m1 96 2 = 1 :=
  x_run (P := fun m => q_i m 96 2 = 1) (g := 0) (c := xi_M2) rfl xi_M2_k (fun d hd => by cases hd) rfl (fun _ _ => rfl) (fun x hx hl T hT zs m e => by
    rcases List.mem_cons.mp hx with e1 | e1
    · subst e1
      exact absurd hl (by decide)
    have e1 := List.mem_singleton.mp e1
    subst e1
    have e2 := List.mem_singleton.mp hT
    subst e2
    obtain ⟨z, z1, z2⟩ := x_O' (c := 96) (j := 2) (e.2.2.2.1 _ (List.mem_singleton.mpr rfl))
    exact z2.trans (b_is_uniq z1 (b_is_c 1))) (zs := []) ⟨rfl, x_B0, x_C0, x_M0, x_Q ⟨[0], ⟨b_is_c 0, trivial⟩, rfl⟩ x_Q0⟩ (b_lvs_ok 0 ⟨rfl, ⟨2, rfl, b_is_c 2⟩, trivial⟩) hM
