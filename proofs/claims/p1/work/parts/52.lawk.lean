/-! ### The law's sixteen cases -/
theorem lw_c0 {l : Launch} {G : ag_G} {D N a b o t : Nat} {C : Nat × Nat} (hC : ag_cN G = C.1 ∧ ag_cS G = C.2) (htr : ∀ e : Env, l.admits e → e.platform.stackTraces = false) (hD : 60 ≤ D) (hL : ag_Ln G ≤ 2560) (ht : 5 * t + 5 ≤ ag_Ln G) {h : ag_H} {S : MS} (w : lw_Wf a b o h) {Z : ag_Z} {K : ag_H → MS → Prop} (hKW : ∀ h1 S1, K h1 S1 → lw_Wf a b o h1) (hK : ∀ h1 S1, K h1 S1 → ag_ev gc_P l G m_law (D + 1 + 1) Z 800 [(0, .ref 0), (1, .ref a), (2, .ref b), (3, .ref o), (4, .int (Int32.ofNat (5 * t)))] [] (md_up h1 b S1)) (q0 : lw_D (fun h => fn_GC_type N C a ((((ag_xs G (5 * t + 1))).toUInt32 % 65536).toInt32) h) (fun S => fn_Md_type N ((((ag_xs G (5 * t + 1))).toUInt32 % 65536).toInt32) S) b h S K) : ag_ev gc_P l G m_law (D + 1 + 1) Z 112 [(0, .ref 0), (1, .ref a), (2, .ref b), (3, .ref o), (4, .int (Int32.ofNat (5 * t)))] [] (md_up h b S) := by
  obtain ⟨fs, ha⟩ := lw_ata w S
  obtain ⟨x, h1, S1, hF, hM, hk⟩ := q0
  replace hF : fn_GC_type N C a ((((ag_xs G (5 * t + 1))).toUInt32 % 65536).toInt32) (md_up h b S) = some (x, md_up h1 b S) := hF
  replace hM : fn_Md_type N ((((ag_xs G (5 * t + 1))).toUInt32 % 65536).toInt32) S = some (x, S1) := hM
  have hb1 : md_ok h1 b := lw_md (hKW _ _ hk)
  refine ag_aloadV_n (v := .ref a) d_law_112 rfl rfl ?_
  refine ag_aloadV_n (v := .ref 0) d_law_113 rfl rfl ?_
  refine ag_iload d_law_114 rfl ?_
  refine ag_iconst d_law_116 ?_
  refine ag_iadd d_law_117 ?_
  refine lw_ld (j := 1) hL ht (by decide) d_law_118 ?_
  refine ag_i2c d_law_119 ?_
  refine ag_callv (as := [.int (((ag_xs G (5 * t + 1)).toUInt32 % 65536).toInt32)]) d_law_120 ml_Lw_52 gw_231 rfl sl_GC_type ha (Nat.le_of_ble_eq_true rfl) (w_GC_type hC (d := D + 1) (by omega) hF) (fun v9 h9 q9 => ?_)
  obtain ⟨rfl, rfl⟩ := q9
  refine ag_aloadV_n (v := .ref b) d_law_123 rfl rfl ?_
  refine ag_aloadV_n (v := .ref 0) d_law_124 rfl rfl ?_
  refine ag_iload d_law_125 rfl ?_
  refine ag_iconst d_law_127 ?_
  refine ag_iadd d_law_128 ?_
  refine lw_ld (j := 1) hL ht (by decide) d_law_129 ?_
  refine ag_i2c d_law_130 ?_
  refine ag_callv (as := [.int (((ag_xs G (5 * t + 1)).toUInt32 % 65536).toInt32)]) d_law_131 ml_Lw_56 gw_1086 rfl sl_Md_type (md_at0 hb1 S) (Nat.le_of_ble_eq_true rfl) (w_Md_type hb1 (d := D + 1) (by omega) hM) (fun v9 h9 q9 => ?_)
  obtain ⟨rfl, rfl⟩ := q9
  refine ag_icmp_eq d_law_134 rfl (fun _ => ?_) (fun q => absurd rfl q)
  exact ag_dr (ag_d1 rfl (ag_d1 rfl (ag_d1 rfl (ag_d1 rfl (ag_d1 rfl ag_d0))))) (hK _ _ hk)
theorem lw_c1 {l : Launch} {G : ag_G} {D N a b o t : Nat} {C : Nat × Nat} (hC : ag_cN G = C.1 ∧ ag_cS G = C.2) (htr : ∀ e : Env, l.admits e → e.platform.stackTraces = false) (hD : 60 ≤ D) (hL : ag_Ln G ≤ 2560) (ht : 5 * t + 5 ≤ ag_Ln G) {h : ag_H} {S : MS} (w : lw_Wf a b o h) {Z : ag_Z} {K : ag_H → MS → Prop} (hKW : ∀ h1 S1, K h1 S1 → lw_Wf a b o h1) (hK : ∀ h1 S1, K h1 S1 → ag_ev gc_P l G m_law (D + 1 + 1) Z 800 [(0, .ref 0), (1, .ref a), (2, .ref b), (3, .ref o), (4, .int (Int32.ofNat (5 * t)))] [] (md_up h1 b S1)) (q0 : lw_V (fun h => fn_GC_wipe N C a  h) (fun S => fn_Md_wipe N  S) b h S K) : ag_ev gc_P l G m_law (D + 1 + 1) Z 139 [(0, .ref 0), (1, .ref a), (2, .ref b), (3, .ref o), (4, .int (Int32.ofNat (5 * t)))] [] (md_up h b S) := by
  obtain ⟨fs, ha⟩ := lw_ata w S
  obtain ⟨x, y, h1, S1, hF, hM, hk⟩ := q0
  replace hF : fn_GC_wipe N C a  (md_up h b S) = some (x, md_up h1 b S) := hF
  replace hM : fn_Md_wipe N  S = some (y, S1) := hM
  have hb1 : md_ok h1 b := lw_md (hKW _ _ hk)
  refine ag_aloadV_n (v := .ref a) d_law_139 rfl rfl ?_
  refine ag_callv (as := []) d_law_140 ml_Lw_57 gw_239 rfl sl_GC_wipe ha (Nat.le_of_ble_eq_true rfl) (w_GC_wipe hC (d := D + 1) (by omega) hF) (fun v9 h9 q9 => ?_)
  obtain ⟨rfl, rfl⟩ := q9
  refine ag_aloadV_n (v := .ref b) d_law_143 rfl rfl ?_
  refine ag_callv (as := []) d_law_144 ml_Lw_60 gw_1090 rfl sl_Md_wipe (md_at0 hb1 S) (Nat.le_of_ble_eq_true rfl) (w_Md_wipe hb1 (d := D + 1) (by omega) hM) (fun v9 h9 q9 => ?_)
  obtain ⟨rfl, rfl⟩ := q9
  refine ag_goto d_law_147 rfl ?_
  exact ag_dr (ag_d1 rfl (ag_d1 rfl (ag_d1 rfl (ag_d1 rfl (ag_d1 rfl ag_d0))))) (hK _ _ hk)
theorem pd_Lw_clause : (parseMethodDescriptor m_Lw_clause.1.desc).map (fun d => d.parameters.length) = some 2 := by decide +kernel
def kd_clause (ci : Nat) : Option Int32 := if ci = 12 then some 1 else if ci = 15 then some 2 else if ci = 13 then some 3 else none
theorem lw_c2 {l : Launch} {G : ag_G} {D N a b o t : Nat} {C : Nat × Nat} (hC : ag_cN G = C.1 ∧ ag_cS G = C.2) (htr : ∀ e : Env, l.admits e → e.platform.stackTraces = false) (hD : 60 ≤ D) (hL : ag_Ln G ≤ 2560) (ht : 5 * t + 5 ≤ ag_Ln G) {h : ag_H} {S : MS} (w : lw_Wf a b o h) {Z : ag_Z} {K : ag_H → MS → Prop} (hKW : ∀ h1 S1, K h1 S1 → lw_Wf a b o h1) (hK : ∀ h1 S1, K h1 S1 → ag_ev gc_P l G m_law (D + 1 + 1) Z 800 [(0, .ref 0), (1, .ref a), (2, .ref b), (3, .ref o), (4, .int (Int32.ofNat (5 * t)))] [] (md_up h1 b S1)) (q0 : lw_T (fun h => fn_GC_clause N C a  h) (fun S => fn_Md_clause N  S) (fun S => fn_Md_thrown N S) kd_clause a b o h S K) : ag_ev gc_P l G m_law (D + 1 + 1) Z 150 [(0, .ref 0), (1, .ref a), (2, .ref b), (3, .ref o), (4, .int (Int32.ofNat (5 * t)))] [] (md_up h b S) := by
  obtain ⟨fs, ha⟩ := lw_ata w S
  obtain ⟨y, S1, k, S2, hM, hT, hR⟩ := q0
  replace hM : fn_Md_clause N  S = some (y, S1) := hM
  replace hT : fn_Md_thrown N S1 = some (k, S2) := hT
  rcases hR with ⟨h1, hF, rfl, w1, hk⟩ | ⟨e, h1, ci, fx, hF, hx, hk, w1, hk2⟩
  · replace hF : fn_GC_clause N C a  (md_up h b S) = some (.inl y, md_up h1 b S) := hF
    obtain ⟨f, hf⟩ := w1.2.2
    have ho : ag_at (md_up h1 b S) (.ref o) = some (.inl (3, 1, .inr (.inl f))) := by rw [lw_ato w1.1.2.2.1 w1.1.2.2.2, hf]
    have hb1 : md_ok (ag_up h1 o (.inl (3, 1, .inr (.inl (vp_updL f 0 y.toInt64))))) b := show 2 ≤ b ∧ b + 21 < h1.1 from lw_md w1
    have ho2 : ag_at (md_up (ag_up h1 o (.inl (3, 1, .inr (.inl (vp_updL f 0 y.toInt64))))) b S2) (.ref o) = some (.inl (3, 1, .inr (.inl (vp_updL f 0 y.toInt64)))) := by
      rw [lw_ato (h := ag_up h1 o (.inl (3, 1, .inr (.inl (vp_updL f 0 y.toInt64))))) w1.1.2.2.1 w1.1.2.2.2]
      exact congrArg some (if_pos rfl)
    refine ag_aloadV_n (v := .ref a) d_law_150 rfl rfl ?_
    refine ag_aloadV_n (v := .ref o) d_law_151 rfl rfl ?_
    refine ag_callsW (Y := m_Lw_clause) (as := [.ref a, .ref o]) d_law_152 gw_277 gw_0 gw_279 ⟨by decide, by decide⟩ pd_Lw_clause (by decide) gw_278 (Nat.le_of_ble_eq_true rfl) (v_Lw_clause hC htr (d := D) (by omega) ha hF ho) (fun v9 h9 q9 => ?_)
    obtain ⟨rfl, rfl⟩ := q9
    rw [lw_upo w1.1.2.2.1]
    refine ag_istore d_law_155 (by decide) ?_
    refine ag_aloadV_n (v := .ref b) d_law_157 rfl rfl ?_
    refine ag_callv (as := []) d_law_158 ml_Lw_66 gw_1094 rfl sl_Md_clause (md_at0 hb1 S) (Nat.le_of_ble_eq_true rfl) (w_Md_clause hb1 (d := D + 1) (by omega) hM) (fun v9 h9 q9 => ?_)
    obtain ⟨rfl, rfl⟩ := q9
    refine ag_istore d_law_161 (by decide) ?_
    refine ag_aloadV_n (v := .ref b) d_law_163 rfl rfl ?_
    refine ag_callv (as := []) d_law_164 ml_Lw_67 gw_1082 rfl sl_Md_thrown (md_at0 hb1 S1) (Nat.le_of_ble_eq_true rfl) (w_Md_thrown hb1 (d := D + 1) (by omega) hT) (fun v9 h9 q9 => ?_)
    obtain ⟨rfl, rfl⟩ := q9
    refine ag_iload d_law_167 rfl ?_
    refine ag_icmp_eq d_law_169 rfl (fun _ => ?_) (fun q => absurd rfl q)
    refine ag_iload d_law_174 rfl ?_
    refine ag_if_ne d_law_176 rfl (fun q => absurd rfl q) (fun _ => ?_)
    refine ag_aloadV_n (v := .ref o) d_law_179 rfl rfl ?_
    refine ag_iconst d_law_180 ?_
    refine ag_lald (t := 3) d_law_181 rfl ho2 (md_in_ok (by decide)) ?_
    refine ag_iload d_law_182 rfl ?_
    refine ag_i2l d_law_184 ?_
    refine ag_lcmp d_law_185 ?_
    refine ag_if_eq d_law_186 rfl (fun _ => ?_) (fun q => absurd (lw_cmp0 _ _) q)
    refine ag_goto d_law_191 rfl ?_
    exact ag_dr (ag_d1 rfl (ag_d1 rfl (ag_d1 rfl (ag_d1 rfl (ag_d1 rfl ag_d0))))) (hK _ _ (hk f hf))
  · have hb1 : md_ok h1 b := lw_md w1
    replace hF : fn_GC_clause N C a  (md_up h b S) = some (.inr e, md_up h1 b S) := hF
    by_cases e9 : ci = 12
    · subst e9
      obtain rfl : (1 : Int32) = k := Option.some.inj hk
      refine ag_aloadV_n (v := .ref a) d_law_150 rfl rfl ?_
      refine ag_aloadV_n (v := .ref o) d_law_151 rfl rfl ?_
      refine ag_callsW (Y := m_Lw_clause) (as := [.ref a, .ref o]) d_law_152 gw_277 gw_0 gw_279 ⟨by decide, by decide⟩ pd_Lw_clause (by decide) gw_278 (Nat.le_of_ble_eq_true rfl) (u_Lw_clause_12 hC htr (d := D) (by omega) ha hF hx) (fun v9 h9 q9 => ?_)
      obtain ⟨rfl, rfl⟩ := q9
      refine ag_istore d_law_155 (by decide) ?_
      refine ag_aloadV_n (v := .ref b) d_law_157 rfl rfl ?_
      refine ag_callv (as := []) d_law_158 ml_Lw_66 gw_1094 rfl sl_Md_clause (md_at0 hb1 S) (Nat.le_of_ble_eq_true rfl) (w_Md_clause hb1 (d := D + 1) (by omega) hM) (fun v9 h9 q9 => ?_)
      obtain ⟨rfl, rfl⟩ := q9
      refine ag_istore d_law_161 (by decide) ?_
      refine ag_aloadV_n (v := .ref b) d_law_163 rfl rfl ?_
      refine ag_callv (as := []) d_law_164 ml_Lw_67 gw_1082 rfl sl_Md_thrown (md_at0 hb1 S1) (Nat.le_of_ble_eq_true rfl) (w_Md_thrown hb1 (d := D + 1) (by omega) hT) (fun v9 h9 q9 => ?_)
      obtain ⟨rfl, rfl⟩ := q9
      refine ag_iload d_law_167 rfl ?_
      refine ag_icmp_eq d_law_169 rfl (fun _ => ?_) (fun q => absurd rfl q)
      refine ag_iload d_law_174 rfl ?_
      refine ag_if_ne d_law_176 rfl (fun _ => ?_) (fun q => absurd q (by decide))
      refine ag_goto d_law_191 rfl ?_
      exact ag_dr (ag_d1 rfl (ag_d1 rfl (ag_d1 rfl (ag_d1 rfl (ag_d1 rfl ag_d0))))) (hK _ _ hk2)
    · have n12 := e9
      by_cases e9 : ci = 15
      · subst e9
        obtain rfl : (2 : Int32) = k := Option.some.inj hk
        refine ag_aloadV_n (v := .ref a) d_law_150 rfl rfl ?_
        refine ag_aloadV_n (v := .ref o) d_law_151 rfl rfl ?_
        refine ag_callsW (Y := m_Lw_clause) (as := [.ref a, .ref o]) d_law_152 gw_277 gw_0 gw_279 ⟨by decide, by decide⟩ pd_Lw_clause (by decide) gw_278 (Nat.le_of_ble_eq_true rfl) (u_Lw_clause_15 hC htr (d := D) (by omega) ha hF hx) (fun v9 h9 q9 => ?_)
        obtain ⟨rfl, rfl⟩ := q9
        refine ag_istore d_law_155 (by decide) ?_
        refine ag_aloadV_n (v := .ref b) d_law_157 rfl rfl ?_
        refine ag_callv (as := []) d_law_158 ml_Lw_66 gw_1094 rfl sl_Md_clause (md_at0 hb1 S) (Nat.le_of_ble_eq_true rfl) (w_Md_clause hb1 (d := D + 1) (by omega) hM) (fun v9 h9 q9 => ?_)
        obtain ⟨rfl, rfl⟩ := q9
        refine ag_istore d_law_161 (by decide) ?_
        refine ag_aloadV_n (v := .ref b) d_law_163 rfl rfl ?_
        refine ag_callv (as := []) d_law_164 ml_Lw_67 gw_1082 rfl sl_Md_thrown (md_at0 hb1 S1) (Nat.le_of_ble_eq_true rfl) (w_Md_thrown hb1 (d := D + 1) (by omega) hT) (fun v9 h9 q9 => ?_)
        obtain ⟨rfl, rfl⟩ := q9
        refine ag_iload d_law_167 rfl ?_
        refine ag_icmp_eq d_law_169 rfl (fun _ => ?_) (fun q => absurd rfl q)
        refine ag_iload d_law_174 rfl ?_
        refine ag_if_ne d_law_176 rfl (fun _ => ?_) (fun q => absurd q (by decide))
        refine ag_goto d_law_191 rfl ?_
        exact ag_dr (ag_d1 rfl (ag_d1 rfl (ag_d1 rfl (ag_d1 rfl (ag_d1 rfl ag_d0))))) (hK _ _ hk2)
      · have n15 := e9
        by_cases e9 : ci = 13
        · subst e9
          obtain rfl : (3 : Int32) = k := Option.some.inj hk
          refine ag_aloadV_n (v := .ref a) d_law_150 rfl rfl ?_
          refine ag_aloadV_n (v := .ref o) d_law_151 rfl rfl ?_
          refine ag_callsW (Y := m_Lw_clause) (as := [.ref a, .ref o]) d_law_152 gw_277 gw_0 gw_279 ⟨by decide, by decide⟩ pd_Lw_clause (by decide) gw_278 (Nat.le_of_ble_eq_true rfl) (u_Lw_clause_13 hC htr (d := D) (by omega) ha hF hx) (fun v9 h9 q9 => ?_)
          obtain ⟨rfl, rfl⟩ := q9
          refine ag_istore d_law_155 (by decide) ?_
          refine ag_aloadV_n (v := .ref b) d_law_157 rfl rfl ?_
          refine ag_callv (as := []) d_law_158 ml_Lw_66 gw_1094 rfl sl_Md_clause (md_at0 hb1 S) (Nat.le_of_ble_eq_true rfl) (w_Md_clause hb1 (d := D + 1) (by omega) hM) (fun v9 h9 q9 => ?_)
          obtain ⟨rfl, rfl⟩ := q9
          refine ag_istore d_law_161 (by decide) ?_
          refine ag_aloadV_n (v := .ref b) d_law_163 rfl rfl ?_
          refine ag_callv (as := []) d_law_164 ml_Lw_67 gw_1082 rfl sl_Md_thrown (md_at0 hb1 S1) (Nat.le_of_ble_eq_true rfl) (w_Md_thrown hb1 (d := D + 1) (by omega) hT) (fun v9 h9 q9 => ?_)
          obtain ⟨rfl, rfl⟩ := q9
          refine ag_iload d_law_167 rfl ?_
          refine ag_icmp_eq d_law_169 rfl (fun _ => ?_) (fun q => absurd rfl q)
          refine ag_iload d_law_174 rfl ?_
          refine ag_if_ne d_law_176 rfl (fun _ => ?_) (fun q => absurd q (by decide))
          refine ag_goto d_law_191 rfl ?_
          exact ag_dr (ag_d1 rfl (ag_d1 rfl (ag_d1 rfl (ag_d1 rfl (ag_d1 rfl ag_d0))))) (hK _ _ hk2)
        · have n13 := e9
          rw [kd_clause, if_neg n12, if_neg n15, if_neg n13] at hk
          cases hk
theorem pd_Lw_desk : (parseMethodDescriptor m_Lw_desk.1.desc).map (fun d => d.parameters.length) = some 2 := by decide +kernel
def kd_desk (ci : Nat) : Option Int32 := if ci = 12 then some 1 else if ci = 13 then some 2 else none
theorem lw_c3 {l : Launch} {G : ag_G} {D N a b o t : Nat} {C : Nat × Nat} (hC : ag_cN G = C.1 ∧ ag_cS G = C.2) (htr : ∀ e : Env, l.admits e → e.platform.stackTraces = false) (hD : 60 ≤ D) (hL : ag_Ln G ≤ 2560) (ht : 5 * t + 5 ≤ ag_Ln G) {h : ag_H} {S : MS} (w : lw_Wf a b o h) {Z : ag_Z} {K : ag_H → MS → Prop} (hKW : ∀ h1 S1, K h1 S1 → lw_Wf a b o h1) (hK : ∀ h1 S1, K h1 S1 → ag_ev gc_P l G m_law (D + 1 + 1) Z 800 [(0, .ref 0), (1, .ref a), (2, .ref b), (3, .ref o), (4, .int (Int32.ofNat (5 * t)))] [] (md_up h1 b S1)) (q0 : lw_T (fun h => fn_GC_desk N C a  h) (fun S => fn_Md_desk N  S) (fun S => fn_Md_thrown N S) kd_desk a b o h S K) : ag_ev gc_P l G m_law (D + 1 + 1) Z 194 [(0, .ref 0), (1, .ref a), (2, .ref b), (3, .ref o), (4, .int (Int32.ofNat (5 * t)))] [] (md_up h b S) := by
  obtain ⟨fs, ha⟩ := lw_ata w S
  obtain ⟨y, S1, k, S2, hM, hT, hR⟩ := q0
  replace hM : fn_Md_desk N  S = some (y, S1) := hM
  replace hT : fn_Md_thrown N S1 = some (k, S2) := hT
  rcases hR with ⟨h1, hF, rfl, w1, hk⟩ | ⟨e, h1, ci, fx, hF, hx, hk, w1, hk2⟩
  · replace hF : fn_GC_desk N C a  (md_up h b S) = some (.inl y, md_up h1 b S) := hF
    obtain ⟨f, hf⟩ := w1.2.2
    have ho : ag_at (md_up h1 b S) (.ref o) = some (.inl (3, 1, .inr (.inl f))) := by rw [lw_ato w1.1.2.2.1 w1.1.2.2.2, hf]
    have hb1 : md_ok (ag_up h1 o (.inl (3, 1, .inr (.inl (vp_updL f 0 y.toInt64))))) b := show 2 ≤ b ∧ b + 21 < h1.1 from lw_md w1
    have ho2 : ag_at (md_up (ag_up h1 o (.inl (3, 1, .inr (.inl (vp_updL f 0 y.toInt64))))) b S2) (.ref o) = some (.inl (3, 1, .inr (.inl (vp_updL f 0 y.toInt64)))) := by
      rw [lw_ato (h := ag_up h1 o (.inl (3, 1, .inr (.inl (vp_updL f 0 y.toInt64))))) w1.1.2.2.1 w1.1.2.2.2]
      exact congrArg some (if_pos rfl)
    refine ag_aloadV_n (v := .ref a) d_law_194 rfl rfl ?_
    refine ag_aloadV_n (v := .ref o) d_law_195 rfl rfl ?_
    refine ag_callsW (Y := m_Lw_desk) (as := [.ref a, .ref o]) d_law_196 gw_593 gw_0 gw_595 ⟨by decide, by decide⟩ pd_Lw_desk (by decide) gw_594 (Nat.le_of_ble_eq_true rfl) (v_Lw_desk hC htr (d := D) (by omega) ha hF ho) (fun v9 h9 q9 => ?_)
    obtain ⟨rfl, rfl⟩ := q9
    rw [lw_upo w1.1.2.2.1]
    refine ag_istore d_law_199 (by decide) ?_
    refine ag_aloadV_n (v := .ref b) d_law_201 rfl rfl ?_
    refine ag_callv (as := []) d_law_202 ml_Lw_72 gw_1165 rfl sl_Md_desk (md_at0 hb1 S) (Nat.le_of_ble_eq_true rfl) (w_Md_desk hb1 (d := D + 1) (by omega) hM) (fun v9 h9 q9 => ?_)
    obtain ⟨rfl, rfl⟩ := q9
    refine ag_istore d_law_205 (by decide) ?_
    refine ag_aloadV_n (v := .ref b) d_law_207 rfl rfl ?_
    refine ag_callv (as := []) d_law_208 ml_Lw_67 gw_1082 rfl sl_Md_thrown (md_at0 hb1 S1) (Nat.le_of_ble_eq_true rfl) (w_Md_thrown hb1 (d := D + 1) (by omega) hT) (fun v9 h9 q9 => ?_)
    obtain ⟨rfl, rfl⟩ := q9
    refine ag_iload d_law_211 rfl ?_
    refine ag_icmp_eq d_law_213 rfl (fun _ => ?_) (fun q => absurd rfl q)
    refine ag_iload d_law_218 rfl ?_
    refine ag_if_ne d_law_220 rfl (fun q => absurd rfl q) (fun _ => ?_)
    refine ag_aloadV_n (v := .ref o) d_law_223 rfl rfl ?_
    refine ag_iconst d_law_224 ?_
    refine ag_lald (t := 3) d_law_225 rfl ho2 (md_in_ok (by decide)) ?_
    refine ag_iload d_law_226 rfl ?_
    refine ag_i2l d_law_228 ?_
    refine ag_lcmp d_law_229 ?_
    refine ag_if_eq d_law_230 rfl (fun _ => ?_) (fun q => absurd (lw_cmp0 _ _) q)
    refine ag_goto d_law_235 rfl ?_
    exact ag_dr (ag_d1 rfl (ag_d1 rfl (ag_d1 rfl (ag_d1 rfl (ag_d1 rfl ag_d0))))) (hK _ _ (hk f hf))
  · have hb1 : md_ok h1 b := lw_md w1
    replace hF : fn_GC_desk N C a  (md_up h b S) = some (.inr e, md_up h1 b S) := hF
    by_cases e9 : ci = 12
    · subst e9
      obtain rfl : (1 : Int32) = k := Option.some.inj hk
      refine ag_aloadV_n (v := .ref a) d_law_194 rfl rfl ?_
      refine ag_aloadV_n (v := .ref o) d_law_195 rfl rfl ?_
      refine ag_callsW (Y := m_Lw_desk) (as := [.ref a, .ref o]) d_law_196 gw_593 gw_0 gw_595 ⟨by decide, by decide⟩ pd_Lw_desk (by decide) gw_594 (Nat.le_of_ble_eq_true rfl) (u_Lw_desk_12 hC htr (d := D) (by omega) ha hF hx) (fun v9 h9 q9 => ?_)
      obtain ⟨rfl, rfl⟩ := q9
      refine ag_istore d_law_199 (by decide) ?_
      refine ag_aloadV_n (v := .ref b) d_law_201 rfl rfl ?_
      refine ag_callv (as := []) d_law_202 ml_Lw_72 gw_1165 rfl sl_Md_desk (md_at0 hb1 S) (Nat.le_of_ble_eq_true rfl) (w_Md_desk hb1 (d := D + 1) (by omega) hM) (fun v9 h9 q9 => ?_)
      obtain ⟨rfl, rfl⟩ := q9
      refine ag_istore d_law_205 (by decide) ?_
      refine ag_aloadV_n (v := .ref b) d_law_207 rfl rfl ?_
      refine ag_callv (as := []) d_law_208 ml_Lw_67 gw_1082 rfl sl_Md_thrown (md_at0 hb1 S1) (Nat.le_of_ble_eq_true rfl) (w_Md_thrown hb1 (d := D + 1) (by omega) hT) (fun v9 h9 q9 => ?_)
      obtain ⟨rfl, rfl⟩ := q9
      refine ag_iload d_law_211 rfl ?_
      refine ag_icmp_eq d_law_213 rfl (fun _ => ?_) (fun q => absurd rfl q)
      refine ag_iload d_law_218 rfl ?_
      refine ag_if_ne d_law_220 rfl (fun _ => ?_) (fun q => absurd q (by decide))
      refine ag_goto d_law_235 rfl ?_
      exact ag_dr (ag_d1 rfl (ag_d1 rfl (ag_d1 rfl (ag_d1 rfl (ag_d1 rfl ag_d0))))) (hK _ _ hk2)
    · have n12 := e9
      by_cases e9 : ci = 13
      · subst e9
        obtain rfl : (2 : Int32) = k := Option.some.inj hk
        refine ag_aloadV_n (v := .ref a) d_law_194 rfl rfl ?_
        refine ag_aloadV_n (v := .ref o) d_law_195 rfl rfl ?_
        refine ag_callsW (Y := m_Lw_desk) (as := [.ref a, .ref o]) d_law_196 gw_593 gw_0 gw_595 ⟨by decide, by decide⟩ pd_Lw_desk (by decide) gw_594 (Nat.le_of_ble_eq_true rfl) (u_Lw_desk_13 hC htr (d := D) (by omega) ha hF hx) (fun v9 h9 q9 => ?_)
        obtain ⟨rfl, rfl⟩ := q9
        refine ag_istore d_law_199 (by decide) ?_
        refine ag_aloadV_n (v := .ref b) d_law_201 rfl rfl ?_
        refine ag_callv (as := []) d_law_202 ml_Lw_72 gw_1165 rfl sl_Md_desk (md_at0 hb1 S) (Nat.le_of_ble_eq_true rfl) (w_Md_desk hb1 (d := D + 1) (by omega) hM) (fun v9 h9 q9 => ?_)
        obtain ⟨rfl, rfl⟩ := q9
        refine ag_istore d_law_205 (by decide) ?_
        refine ag_aloadV_n (v := .ref b) d_law_207 rfl rfl ?_
        refine ag_callv (as := []) d_law_208 ml_Lw_67 gw_1082 rfl sl_Md_thrown (md_at0 hb1 S1) (Nat.le_of_ble_eq_true rfl) (w_Md_thrown hb1 (d := D + 1) (by omega) hT) (fun v9 h9 q9 => ?_)
        obtain ⟨rfl, rfl⟩ := q9
        refine ag_iload d_law_211 rfl ?_
        refine ag_icmp_eq d_law_213 rfl (fun _ => ?_) (fun q => absurd rfl q)
        refine ag_iload d_law_218 rfl ?_
        refine ag_if_ne d_law_220 rfl (fun _ => ?_) (fun q => absurd q (by decide))
        refine ag_goto d_law_235 rfl ?_
        exact ag_dr (ag_d1 rfl (ag_d1 rfl (ag_d1 rfl (ag_d1 rfl (ag_d1 rfl ag_d0))))) (hK _ _ hk2)
      · have n13 := e9
        rw [kd_desk, if_neg n12, if_neg n13] at hk
        cases hk
theorem lw_c4 {l : Launch} {G : ag_G} {D N a b o t : Nat} {C : Nat × Nat} (hC : ag_cN G = C.1 ∧ ag_cS G = C.2) (htr : ∀ e : Env, l.admits e → e.platform.stackTraces = false) (hD : 60 ≤ D) (hL : ag_Ln G ≤ 2560) (ht : 5 * t + 5 ≤ ag_Ln G) {h : ag_H} {S : MS} (w : lw_Wf a b o h) {Z : ag_Z} {K : ag_H → MS → Prop} (hKW : ∀ h1 S1, K h1 S1 → lw_Wf a b o h1) (hK : ∀ h1 S1, K h1 S1 → ag_ev gc_P l G m_law (D + 1 + 1) Z 800 [(0, .ref 0), (1, .ref a), (2, .ref b), (3, .ref o), (4, .int (Int32.ofNat (5 * t)))] [] (md_up h1 b S1)) (q0 : lw_V (fun h => fn_GC_clear N C a  h) (fun S => fn_Md_clear N  S) b h S K) : ag_ev gc_P l G m_law (D + 1 + 1) Z 238 [(0, .ref 0), (1, .ref a), (2, .ref b), (3, .ref o), (4, .int (Int32.ofNat (5 * t)))] [] (md_up h b S) := by
  obtain ⟨fs, ha⟩ := lw_ata w S
  obtain ⟨x, y, h1, S1, hF, hM, hk⟩ := q0
  replace hF : fn_GC_clear N C a  (md_up h b S) = some (x, md_up h1 b S) := hF
  replace hM : fn_Md_clear N  S = some (y, S1) := hM
  have hb1 : md_ok h1 b := lw_md (hKW _ _ hk)
  refine ag_aloadV_n (v := .ref a) d_law_238 rfl rfl ?_
  refine ag_callv (as := []) d_law_239 ml_Lw_73 gw_243 rfl sl_GC_clear ha (Nat.le_of_ble_eq_true rfl) (w_GC_clear hC (d := D + 1) (by omega) hF) (fun v9 h9 q9 => ?_)
  obtain ⟨rfl, rfl⟩ := q9
  refine ag_aloadV_n (v := .ref b) d_law_242 rfl rfl ?_
  refine ag_callv (as := []) d_law_243 ml_Lw_76 gw_1169 rfl sl_Md_clear (md_at0 hb1 S) (Nat.le_of_ble_eq_true rfl) (w_Md_clear hb1 (d := D + 1) (by omega) hM) (fun v9 h9 q9 => ?_)
  obtain ⟨rfl, rfl⟩ := q9
  refine ag_goto d_law_246 rfl ?_
  exact ag_dr (ag_d1 rfl (ag_d1 rfl (ag_d1 rfl (ag_d1 rfl (ag_d1 rfl ag_d0))))) (hK _ _ hk)
theorem pd_Lw_issue : (parseMethodDescriptor m_Lw_issue.1.desc).map (fun d => d.parameters.length) = some 3 := by decide +kernel
def kd_issue (ci : Nat) : Option Int32 := if ci = 12 then some 1 else if ci = 13 then some 2 else none
theorem lw_c5 {l : Launch} {G : ag_G} {D N a b o t : Nat} {C : Nat × Nat} (hC : ag_cN G = C.1 ∧ ag_cS G = C.2) (htr : ∀ e : Env, l.admits e → e.platform.stackTraces = false) (hD : 60 ≤ D) (hL : ag_Ln G ≤ 2560) (ht : 5 * t + 5 ≤ ag_Ln G) {h : ag_H} {S : MS} (w : lw_Wf a b o h) {Z : ag_Z} {K : ag_H → MS → Prop} (hKW : ∀ h1 S1, K h1 S1 → lw_Wf a b o h1) (hK : ∀ h1 S1, K h1 S1 → ag_ev gc_P l G m_law (D + 1 + 1) Z 800 [(0, .ref 0), (1, .ref a), (2, .ref b), (3, .ref o), (4, .int (Int32.ofNat (5 * t)))] [] (md_up h1 b S1)) (q0 : lw_T (fun h => fn_GC_issue N C a (ag_xs G (5 * t + 1)) h) (fun S => fn_Md_issue N (ag_xs G (5 * t + 1)) S) (fun S => fn_Md_thrown N S) kd_issue a b o h S K) : ag_ev gc_P l G m_law (D + 1 + 1) Z 249 [(0, .ref 0), (1, .ref a), (2, .ref b), (3, .ref o), (4, .int (Int32.ofNat (5 * t)))] [] (md_up h b S) := by
  obtain ⟨fs, ha⟩ := lw_ata w S
  obtain ⟨y, S1, k, S2, hM, hT, hR⟩ := q0
  replace hM : fn_Md_issue N (ag_xs G (5 * t + 1)) S = some (y, S1) := hM
  replace hT : fn_Md_thrown N S1 = some (k, S2) := hT
  rcases hR with ⟨h1, hF, rfl, w1, hk⟩ | ⟨e, h1, ci, fx, hF, hx, hk, w1, hk2⟩
  · replace hF : fn_GC_issue N C a (ag_xs G (5 * t + 1)) (md_up h b S) = some (.inl y, md_up h1 b S) := hF
    obtain ⟨f, hf⟩ := w1.2.2
    have ho : ag_at (md_up h1 b S) (.ref o) = some (.inl (3, 1, .inr (.inl f))) := by rw [lw_ato w1.1.2.2.1 w1.1.2.2.2, hf]
    have hb1 : md_ok (ag_up h1 o (.inl (3, 1, .inr (.inl (vp_updL f 0 y.toInt64))))) b := show 2 ≤ b ∧ b + 21 < h1.1 from lw_md w1
    have ho2 : ag_at (md_up (ag_up h1 o (.inl (3, 1, .inr (.inl (vp_updL f 0 y.toInt64))))) b S2) (.ref o) = some (.inl (3, 1, .inr (.inl (vp_updL f 0 y.toInt64)))) := by
      rw [lw_ato (h := ag_up h1 o (.inl (3, 1, .inr (.inl (vp_updL f 0 y.toInt64))))) w1.1.2.2.1 w1.1.2.2.2]
      exact congrArg some (if_pos rfl)
    refine ag_aloadV_n (v := .ref a) d_law_249 rfl rfl ?_
    refine ag_aloadV_n (v := .ref 0) d_law_250 rfl rfl ?_
    refine ag_iload d_law_251 rfl ?_
    refine ag_iconst d_law_253 ?_
    refine ag_iadd d_law_254 ?_
    refine lw_ld (j := 1) hL ht (by decide) d_law_255 ?_
    refine ag_aloadV_n (v := .ref o) d_law_256 rfl rfl ?_
    refine ag_callsW (Y := m_Lw_issue) (as := [.ref a, .int (ag_xs G (5 * t + 1)), .ref o]) d_law_257 gw_600 gw_0 gw_602 ⟨by decide, by decide⟩ pd_Lw_issue (by decide) gw_601 (Nat.le_of_ble_eq_true rfl) (v_Lw_issue hC htr (d := D) (by omega) ha hF ho) (fun v9 h9 q9 => ?_)
    obtain ⟨rfl, rfl⟩ := q9
    rw [lw_upo w1.1.2.2.1]
    refine ag_istore d_law_260 (by decide) ?_
    refine ag_aloadV_n (v := .ref b) d_law_262 rfl rfl ?_
    refine ag_aloadV_n (v := .ref 0) d_law_263 rfl rfl ?_
    refine ag_iload d_law_264 rfl ?_
    refine ag_iconst d_law_266 ?_
    refine ag_iadd d_law_267 ?_
    refine lw_ld (j := 1) hL ht (by decide) d_law_268 ?_
    refine ag_callv (as := [.int (ag_xs G (5 * t + 1))]) d_law_269 ml_Lw_80 gw_1173 rfl sl_Md_issue (md_at0 hb1 S) (Nat.le_of_ble_eq_true rfl) (w_Md_issue hb1 (d := D + 1) (by omega) hM) (fun v9 h9 q9 => ?_)
    obtain ⟨rfl, rfl⟩ := q9
    refine ag_istore d_law_272 (by decide) ?_
    refine ag_aloadV_n (v := .ref b) d_law_274 rfl rfl ?_
    refine ag_callv (as := []) d_law_275 ml_Lw_67 gw_1082 rfl sl_Md_thrown (md_at0 hb1 S1) (Nat.le_of_ble_eq_true rfl) (w_Md_thrown hb1 (d := D + 1) (by omega) hT) (fun v9 h9 q9 => ?_)
    obtain ⟨rfl, rfl⟩ := q9
    refine ag_iload d_law_278 rfl ?_
    refine ag_icmp_eq d_law_280 rfl (fun _ => ?_) (fun q => absurd rfl q)
    refine ag_iload d_law_285 rfl ?_
    refine ag_if_ne d_law_287 rfl (fun q => absurd rfl q) (fun _ => ?_)
    refine ag_aloadV_n (v := .ref o) d_law_290 rfl rfl ?_
    refine ag_iconst d_law_291 ?_
    refine ag_lald (t := 3) d_law_292 rfl ho2 (md_in_ok (by decide)) ?_
    refine ag_iload d_law_293 rfl ?_
    refine ag_i2l d_law_295 ?_
    refine ag_lcmp d_law_296 ?_
    refine ag_if_eq d_law_297 rfl (fun _ => ?_) (fun q => absurd (lw_cmp0 _ _) q)
    refine ag_goto d_law_302 rfl ?_
    exact ag_dr (ag_d1 rfl (ag_d1 rfl (ag_d1 rfl (ag_d1 rfl (ag_d1 rfl ag_d0))))) (hK _ _ (hk f hf))
  · have hb1 : md_ok h1 b := lw_md w1
    replace hF : fn_GC_issue N C a (ag_xs G (5 * t + 1)) (md_up h b S) = some (.inr e, md_up h1 b S) := hF
    by_cases e9 : ci = 12
    · subst e9
      obtain rfl : (1 : Int32) = k := Option.some.inj hk
      refine ag_aloadV_n (v := .ref a) d_law_249 rfl rfl ?_
      refine ag_aloadV_n (v := .ref 0) d_law_250 rfl rfl ?_
      refine ag_iload d_law_251 rfl ?_
      refine ag_iconst d_law_253 ?_
      refine ag_iadd d_law_254 ?_
      refine lw_ld (j := 1) hL ht (by decide) d_law_255 ?_
      refine ag_aloadV_n (v := .ref o) d_law_256 rfl rfl ?_
      refine ag_callsW (Y := m_Lw_issue) (as := [.ref a, .int (ag_xs G (5 * t + 1)), .ref o]) d_law_257 gw_600 gw_0 gw_602 ⟨by decide, by decide⟩ pd_Lw_issue (by decide) gw_601 (Nat.le_of_ble_eq_true rfl) (u_Lw_issue_12 hC htr (d := D) (by omega) ha hF hx) (fun v9 h9 q9 => ?_)
      obtain ⟨rfl, rfl⟩ := q9
      refine ag_istore d_law_260 (by decide) ?_
      refine ag_aloadV_n (v := .ref b) d_law_262 rfl rfl ?_
      refine ag_aloadV_n (v := .ref 0) d_law_263 rfl rfl ?_
      refine ag_iload d_law_264 rfl ?_
      refine ag_iconst d_law_266 ?_
      refine ag_iadd d_law_267 ?_
      refine lw_ld (j := 1) hL ht (by decide) d_law_268 ?_
      refine ag_callv (as := [.int (ag_xs G (5 * t + 1))]) d_law_269 ml_Lw_80 gw_1173 rfl sl_Md_issue (md_at0 hb1 S) (Nat.le_of_ble_eq_true rfl) (w_Md_issue hb1 (d := D + 1) (by omega) hM) (fun v9 h9 q9 => ?_)
      obtain ⟨rfl, rfl⟩ := q9
      refine ag_istore d_law_272 (by decide) ?_
      refine ag_aloadV_n (v := .ref b) d_law_274 rfl rfl ?_
      refine ag_callv (as := []) d_law_275 ml_Lw_67 gw_1082 rfl sl_Md_thrown (md_at0 hb1 S1) (Nat.le_of_ble_eq_true rfl) (w_Md_thrown hb1 (d := D + 1) (by omega) hT) (fun v9 h9 q9 => ?_)
      obtain ⟨rfl, rfl⟩ := q9
      refine ag_iload d_law_278 rfl ?_
      refine ag_icmp_eq d_law_280 rfl (fun _ => ?_) (fun q => absurd rfl q)
      refine ag_iload d_law_285 rfl ?_
      refine ag_if_ne d_law_287 rfl (fun _ => ?_) (fun q => absurd q (by decide))
      refine ag_goto d_law_302 rfl ?_
      exact ag_dr (ag_d1 rfl (ag_d1 rfl (ag_d1 rfl (ag_d1 rfl (ag_d1 rfl ag_d0))))) (hK _ _ hk2)
    · have n12 := e9
      by_cases e9 : ci = 13
      · subst e9
        obtain rfl : (2 : Int32) = k := Option.some.inj hk
        refine ag_aloadV_n (v := .ref a) d_law_249 rfl rfl ?_
        refine ag_aloadV_n (v := .ref 0) d_law_250 rfl rfl ?_
        refine ag_iload d_law_251 rfl ?_
        refine ag_iconst d_law_253 ?_
        refine ag_iadd d_law_254 ?_
        refine lw_ld (j := 1) hL ht (by decide) d_law_255 ?_
        refine ag_aloadV_n (v := .ref o) d_law_256 rfl rfl ?_
        refine ag_callsW (Y := m_Lw_issue) (as := [.ref a, .int (ag_xs G (5 * t + 1)), .ref o]) d_law_257 gw_600 gw_0 gw_602 ⟨by decide, by decide⟩ pd_Lw_issue (by decide) gw_601 (Nat.le_of_ble_eq_true rfl) (u_Lw_issue_13 hC htr (d := D) (by omega) ha hF hx) (fun v9 h9 q9 => ?_)
        obtain ⟨rfl, rfl⟩ := q9
        refine ag_istore d_law_260 (by decide) ?_
        refine ag_aloadV_n (v := .ref b) d_law_262 rfl rfl ?_
        refine ag_aloadV_n (v := .ref 0) d_law_263 rfl rfl ?_
        refine ag_iload d_law_264 rfl ?_
        refine ag_iconst d_law_266 ?_
        refine ag_iadd d_law_267 ?_
        refine lw_ld (j := 1) hL ht (by decide) d_law_268 ?_
        refine ag_callv (as := [.int (ag_xs G (5 * t + 1))]) d_law_269 ml_Lw_80 gw_1173 rfl sl_Md_issue (md_at0 hb1 S) (Nat.le_of_ble_eq_true rfl) (w_Md_issue hb1 (d := D + 1) (by omega) hM) (fun v9 h9 q9 => ?_)
        obtain ⟨rfl, rfl⟩ := q9
        refine ag_istore d_law_272 (by decide) ?_
        refine ag_aloadV_n (v := .ref b) d_law_274 rfl rfl ?_
        refine ag_callv (as := []) d_law_275 ml_Lw_67 gw_1082 rfl sl_Md_thrown (md_at0 hb1 S1) (Nat.le_of_ble_eq_true rfl) (w_Md_thrown hb1 (d := D + 1) (by omega) hT) (fun v9 h9 q9 => ?_)
        obtain ⟨rfl, rfl⟩ := q9
        refine ag_iload d_law_278 rfl ?_
        refine ag_icmp_eq d_law_280 rfl (fun _ => ?_) (fun q => absurd rfl q)
        refine ag_iload d_law_285 rfl ?_
        refine ag_if_ne d_law_287 rfl (fun _ => ?_) (fun q => absurd q (by decide))
        refine ag_goto d_law_302 rfl ?_
        exact ag_dr (ag_d1 rfl (ag_d1 rfl (ag_d1 rfl (ag_d1 rfl (ag_d1 rfl ag_d0))))) (hK _ _ hk2)
      · have n13 := e9
        rw [kd_issue, if_neg n12, if_neg n13] at hk
        cases hk
theorem pd_Lw_append : (parseMethodDescriptor m_Lw_append.1.desc).map (fun d => d.parameters.length) = some 3 := by decide +kernel
def kd_append (ci : Nat) : Option Int32 := if ci = 14 then some 1 else if ci = 13 then some 2 else none
theorem lw_c6 {l : Launch} {G : ag_G} {D N a b o t : Nat} {C : Nat × Nat} (hC : ag_cN G = C.1 ∧ ag_cS G = C.2) (htr : ∀ e : Env, l.admits e → e.platform.stackTraces = false) (hD : 60 ≤ D) (hL : ag_Ln G ≤ 2560) (ht : 5 * t + 5 ≤ ag_Ln G) {h : ag_H} {S : MS} (w : lw_Wf a b o h) {Z : ag_Z} {K : ag_H → MS → Prop} (hKW : ∀ h1 S1, K h1 S1 → lw_Wf a b o h1) (hK : ∀ h1 S1, K h1 S1 → ag_ev gc_P l G m_law (D + 1 + 1) Z 800 [(0, .ref 0), (1, .ref a), (2, .ref b), (3, .ref o), (4, .int (Int32.ofNat (5 * t)))] [] (md_up h1 b S1)) (q0 : lw_T (fun h => fn_GC_append N C a (ag_xs G (5 * t + 1)) h) (fun S => fn_Md_append N (ag_xs G (5 * t + 1)) S) (fun S => fn_Md_thrown N S) kd_append a b o h S K) : ag_ev gc_P l G m_law (D + 1 + 1) Z 305 [(0, .ref 0), (1, .ref a), (2, .ref b), (3, .ref o), (4, .int (Int32.ofNat (5 * t)))] [] (md_up h b S) := by
  obtain ⟨fs, ha⟩ := lw_ata w S
  obtain ⟨y, S1, k, S2, hM, hT, hR⟩ := q0
  replace hM : fn_Md_append N (ag_xs G (5 * t + 1)) S = some (y, S1) := hM
  replace hT : fn_Md_thrown N S1 = some (k, S2) := hT
  rcases hR with ⟨h1, hF, rfl, w1, hk⟩ | ⟨e, h1, ci, fx, hF, hx, hk, w1, hk2⟩
  · replace hF : fn_GC_append N C a (ag_xs G (5 * t + 1)) (md_up h b S) = some (.inl y, md_up h1 b S) := hF
    obtain ⟨f, hf⟩ := w1.2.2
    have ho : ag_at (md_up h1 b S) (.ref o) = some (.inl (3, 1, .inr (.inl f))) := by rw [lw_ato w1.1.2.2.1 w1.1.2.2.2, hf]
    have hb1 : md_ok (ag_up h1 o (.inl (3, 1, .inr (.inl (vp_updL f 0 y.toInt64))))) b := show 2 ≤ b ∧ b + 21 < h1.1 from lw_md w1
    have ho2 : ag_at (md_up (ag_up h1 o (.inl (3, 1, .inr (.inl (vp_updL f 0 y.toInt64))))) b S2) (.ref o) = some (.inl (3, 1, .inr (.inl (vp_updL f 0 y.toInt64)))) := by
      rw [lw_ato (h := ag_up h1 o (.inl (3, 1, .inr (.inl (vp_updL f 0 y.toInt64))))) w1.1.2.2.1 w1.1.2.2.2]
      exact congrArg some (if_pos rfl)
    refine ag_aloadV_n (v := .ref a) d_law_305 rfl rfl ?_
    refine ag_aloadV_n (v := .ref 0) d_law_306 rfl rfl ?_
    refine ag_iload d_law_307 rfl ?_
    refine ag_iconst d_law_309 ?_
    refine ag_iadd d_law_310 ?_
    refine lw_ld (j := 1) hL ht (by decide) d_law_311 ?_
    refine ag_aloadV_n (v := .ref o) d_law_312 rfl rfl ?_
    refine ag_callsW (Y := m_Lw_append) (as := [.ref a, .int (ag_xs G (5 * t + 1)), .ref o]) d_law_313 gw_680 gw_0 gw_682 ⟨by decide, by decide⟩ pd_Lw_append (by decide) gw_681 (Nat.le_of_ble_eq_true rfl) (v_Lw_append hC htr (d := D) (by omega) ha hF ho) (fun v9 h9 q9 => ?_)
    obtain ⟨rfl, rfl⟩ := q9
    rw [lw_upo w1.1.2.2.1]
    refine ag_istore d_law_316 (by decide) ?_
    refine ag_aloadV_n (v := .ref b) d_law_318 rfl rfl ?_
    refine ag_aloadV_n (v := .ref 0) d_law_319 rfl rfl ?_
    refine ag_iload d_law_320 rfl ?_
    refine ag_iconst d_law_322 ?_
    refine ag_iadd d_law_323 ?_
    refine lw_ld (j := 1) hL ht (by decide) d_law_324 ?_
    refine ag_callv (as := [.int (ag_xs G (5 * t + 1))]) d_law_325 ml_Lw_83 gw_1185 rfl sl_Md_append (md_at0 hb1 S) (Nat.le_of_ble_eq_true rfl) (w_Md_append hb1 (d := D + 1) (by omega) hM) (fun v9 h9 q9 => ?_)
    obtain ⟨rfl, rfl⟩ := q9
    refine ag_istore d_law_328 (by decide) ?_
    refine ag_aloadV_n (v := .ref b) d_law_330 rfl rfl ?_
    refine ag_callv (as := []) d_law_331 ml_Lw_67 gw_1082 rfl sl_Md_thrown (md_at0 hb1 S1) (Nat.le_of_ble_eq_true rfl) (w_Md_thrown hb1 (d := D + 1) (by omega) hT) (fun v9 h9 q9 => ?_)
    obtain ⟨rfl, rfl⟩ := q9
    refine ag_iload d_law_334 rfl ?_
    refine ag_icmp_eq d_law_336 rfl (fun _ => ?_) (fun q => absurd rfl q)
    refine ag_iload d_law_341 rfl ?_
    refine ag_if_ne d_law_343 rfl (fun q => absurd rfl q) (fun _ => ?_)
    refine ag_aloadV_n (v := .ref o) d_law_346 rfl rfl ?_
    refine ag_iconst d_law_347 ?_
    refine ag_lald (t := 3) d_law_348 rfl ho2 (md_in_ok (by decide)) ?_
    refine ag_iload d_law_349 rfl ?_
    refine ag_i2l d_law_351 ?_
    refine ag_lcmp d_law_352 ?_
    refine ag_if_eq d_law_353 rfl (fun _ => ?_) (fun q => absurd (lw_cmp0 _ _) q)
    refine ag_goto d_law_358 rfl ?_
    exact ag_dr (ag_d1 rfl (ag_d1 rfl (ag_d1 rfl (ag_d1 rfl (ag_d1 rfl ag_d0))))) (hK _ _ (hk f hf))
  · have hb1 : md_ok h1 b := lw_md w1
    replace hF : fn_GC_append N C a (ag_xs G (5 * t + 1)) (md_up h b S) = some (.inr e, md_up h1 b S) := hF
    by_cases e9 : ci = 14
    · subst e9
      obtain rfl : (1 : Int32) = k := Option.some.inj hk
      refine ag_aloadV_n (v := .ref a) d_law_305 rfl rfl ?_
      refine ag_aloadV_n (v := .ref 0) d_law_306 rfl rfl ?_
      refine ag_iload d_law_307 rfl ?_
      refine ag_iconst d_law_309 ?_
      refine ag_iadd d_law_310 ?_
      refine lw_ld (j := 1) hL ht (by decide) d_law_311 ?_
      refine ag_aloadV_n (v := .ref o) d_law_312 rfl rfl ?_
      refine ag_callsW (Y := m_Lw_append) (as := [.ref a, .int (ag_xs G (5 * t + 1)), .ref o]) d_law_313 gw_680 gw_0 gw_682 ⟨by decide, by decide⟩ pd_Lw_append (by decide) gw_681 (Nat.le_of_ble_eq_true rfl) (u_Lw_append_14 hC htr (d := D) (by omega) ha hF hx) (fun v9 h9 q9 => ?_)
      obtain ⟨rfl, rfl⟩ := q9
      refine ag_istore d_law_316 (by decide) ?_
      refine ag_aloadV_n (v := .ref b) d_law_318 rfl rfl ?_
      refine ag_aloadV_n (v := .ref 0) d_law_319 rfl rfl ?_
      refine ag_iload d_law_320 rfl ?_
      refine ag_iconst d_law_322 ?_
      refine ag_iadd d_law_323 ?_
      refine lw_ld (j := 1) hL ht (by decide) d_law_324 ?_
      refine ag_callv (as := [.int (ag_xs G (5 * t + 1))]) d_law_325 ml_Lw_83 gw_1185 rfl sl_Md_append (md_at0 hb1 S) (Nat.le_of_ble_eq_true rfl) (w_Md_append hb1 (d := D + 1) (by omega) hM) (fun v9 h9 q9 => ?_)
      obtain ⟨rfl, rfl⟩ := q9
      refine ag_istore d_law_328 (by decide) ?_
      refine ag_aloadV_n (v := .ref b) d_law_330 rfl rfl ?_
      refine ag_callv (as := []) d_law_331 ml_Lw_67 gw_1082 rfl sl_Md_thrown (md_at0 hb1 S1) (Nat.le_of_ble_eq_true rfl) (w_Md_thrown hb1 (d := D + 1) (by omega) hT) (fun v9 h9 q9 => ?_)
      obtain ⟨rfl, rfl⟩ := q9
      refine ag_iload d_law_334 rfl ?_
      refine ag_icmp_eq d_law_336 rfl (fun _ => ?_) (fun q => absurd rfl q)
      refine ag_iload d_law_341 rfl ?_
      refine ag_if_ne d_law_343 rfl (fun _ => ?_) (fun q => absurd q (by decide))
      refine ag_goto d_law_358 rfl ?_
      exact ag_dr (ag_d1 rfl (ag_d1 rfl (ag_d1 rfl (ag_d1 rfl (ag_d1 rfl ag_d0))))) (hK _ _ hk2)
    · have n14 := e9
      by_cases e9 : ci = 13
      · subst e9
        obtain rfl : (2 : Int32) = k := Option.some.inj hk
        refine ag_aloadV_n (v := .ref a) d_law_305 rfl rfl ?_
        refine ag_aloadV_n (v := .ref 0) d_law_306 rfl rfl ?_
        refine ag_iload d_law_307 rfl ?_
        refine ag_iconst d_law_309 ?_
        refine ag_iadd d_law_310 ?_
        refine lw_ld (j := 1) hL ht (by decide) d_law_311 ?_
        refine ag_aloadV_n (v := .ref o) d_law_312 rfl rfl ?_
        refine ag_callsW (Y := m_Lw_append) (as := [.ref a, .int (ag_xs G (5 * t + 1)), .ref o]) d_law_313 gw_680 gw_0 gw_682 ⟨by decide, by decide⟩ pd_Lw_append (by decide) gw_681 (Nat.le_of_ble_eq_true rfl) (u_Lw_append_13 hC htr (d := D) (by omega) ha hF hx) (fun v9 h9 q9 => ?_)
        obtain ⟨rfl, rfl⟩ := q9
        refine ag_istore d_law_316 (by decide) ?_
        refine ag_aloadV_n (v := .ref b) d_law_318 rfl rfl ?_
        refine ag_aloadV_n (v := .ref 0) d_law_319 rfl rfl ?_
        refine ag_iload d_law_320 rfl ?_
        refine ag_iconst d_law_322 ?_
        refine ag_iadd d_law_323 ?_
        refine lw_ld (j := 1) hL ht (by decide) d_law_324 ?_
        refine ag_callv (as := [.int (ag_xs G (5 * t + 1))]) d_law_325 ml_Lw_83 gw_1185 rfl sl_Md_append (md_at0 hb1 S) (Nat.le_of_ble_eq_true rfl) (w_Md_append hb1 (d := D + 1) (by omega) hM) (fun v9 h9 q9 => ?_)
        obtain ⟨rfl, rfl⟩ := q9
        refine ag_istore d_law_328 (by decide) ?_
        refine ag_aloadV_n (v := .ref b) d_law_330 rfl rfl ?_
        refine ag_callv (as := []) d_law_331 ml_Lw_67 gw_1082 rfl sl_Md_thrown (md_at0 hb1 S1) (Nat.le_of_ble_eq_true rfl) (w_Md_thrown hb1 (d := D + 1) (by omega) hT) (fun v9 h9 q9 => ?_)
        obtain ⟨rfl, rfl⟩ := q9
        refine ag_iload d_law_334 rfl ?_
        refine ag_icmp_eq d_law_336 rfl (fun _ => ?_) (fun q => absurd rfl q)
        refine ag_iload d_law_341 rfl ?_
        refine ag_if_ne d_law_343 rfl (fun _ => ?_) (fun q => absurd q (by decide))
        refine ag_goto d_law_358 rfl ?_
        exact ag_dr (ag_d1 rfl (ag_d1 rfl (ag_d1 rfl (ag_d1 rfl (ag_d1 rfl ag_d0))))) (hK _ _ hk2)
      · have n13 := e9
        rw [kd_append, if_neg n14, if_neg n13] at hk
        cases hk
theorem pd_Lw_seal : (parseMethodDescriptor m_Lw_seal.1.desc).map (fun d => d.parameters.length) = some 3 := by decide +kernel
def kd_seal (ci : Nat) : Option Int32 := if ci = 14 then some 1 else if ci = 13 then some 2 else none
theorem lw_c7 {l : Launch} {G : ag_G} {D N a b o t : Nat} {C : Nat × Nat} (hC : ag_cN G = C.1 ∧ ag_cS G = C.2) (htr : ∀ e : Env, l.admits e → e.platform.stackTraces = false) (hD : 60 ≤ D) (hL : ag_Ln G ≤ 2560) (ht : 5 * t + 5 ≤ ag_Ln G) {h : ag_H} {S : MS} (w : lw_Wf a b o h) {Z : ag_Z} {K : ag_H → MS → Prop} (hKW : ∀ h1 S1, K h1 S1 → lw_Wf a b o h1) (hK : ∀ h1 S1, K h1 S1 → ag_ev gc_P l G m_law (D + 1 + 1) Z 800 [(0, .ref 0), (1, .ref a), (2, .ref b), (3, .ref o), (4, .int (Int32.ofNat (5 * t)))] [] (md_up h1 b S1)) (q0 : lw_T (fun h => fn_GC_seal N C a (ag_xs G (5 * t + 1)) h) (fun S => fn_Md_seal N (ag_xs G (5 * t + 1)) S) (fun S => fn_Md_thrown N S) kd_seal a b o h S K) : ag_ev gc_P l G m_law (D + 1 + 1) Z 361 [(0, .ref 0), (1, .ref a), (2, .ref b), (3, .ref o), (4, .int (Int32.ofNat (5 * t)))] [] (md_up h b S) := by
  obtain ⟨fs, ha⟩ := lw_ata w S
  obtain ⟨y, S1, k, S2, hM, hT, hR⟩ := q0
  replace hM : fn_Md_seal N (ag_xs G (5 * t + 1)) S = some (y, S1) := hM
  replace hT : fn_Md_thrown N S1 = some (k, S2) := hT
  rcases hR with ⟨h1, hF, rfl, w1, hk⟩ | ⟨e, h1, ci, fx, hF, hx, hk, w1, hk2⟩
  · replace hF : fn_GC_seal N C a (ag_xs G (5 * t + 1)) (md_up h b S) = some (.inl y, md_up h1 b S) := hF
    obtain ⟨f, hf⟩ := w1.2.2
    have ho : ag_at (md_up h1 b S) (.ref o) = some (.inl (3, 1, .inr (.inl f))) := by rw [lw_ato w1.1.2.2.1 w1.1.2.2.2, hf]
    have hb1 : md_ok (ag_up h1 o (.inl (3, 1, .inr (.inl (vp_updL f 0 y.toInt64))))) b := show 2 ≤ b ∧ b + 21 < h1.1 from lw_md w1
    have ho2 : ag_at (md_up (ag_up h1 o (.inl (3, 1, .inr (.inl (vp_updL f 0 y.toInt64))))) b S2) (.ref o) = some (.inl (3, 1, .inr (.inl (vp_updL f 0 y.toInt64)))) := by
      rw [lw_ato (h := ag_up h1 o (.inl (3, 1, .inr (.inl (vp_updL f 0 y.toInt64))))) w1.1.2.2.1 w1.1.2.2.2]
      exact congrArg some (if_pos rfl)
    refine ag_aloadV_n (v := .ref a) d_law_361 rfl rfl ?_
    refine ag_aloadV_n (v := .ref 0) d_law_362 rfl rfl ?_
    refine ag_iload d_law_363 rfl ?_
    refine ag_iconst d_law_365 ?_
    refine ag_iadd d_law_366 ?_
    refine lw_ld (j := 1) hL ht (by decide) d_law_367 ?_
    refine ag_aloadV_n (v := .ref o) d_law_368 rfl rfl ?_
    refine ag_callsW (Y := m_Lw_seal) (as := [.ref a, .int (ag_xs G (5 * t + 1)), .ref o]) d_law_369 gw_739 gw_0 gw_741 ⟨by decide, by decide⟩ pd_Lw_seal (by decide) gw_740 (Nat.le_of_ble_eq_true rfl) (v_Lw_seal hC htr (d := D) (by omega) ha hF ho) (fun v9 h9 q9 => ?_)
    obtain ⟨rfl, rfl⟩ := q9
    rw [lw_upo w1.1.2.2.1]
    refine ag_istore d_law_372 (by decide) ?_
    refine ag_aloadV_n (v := .ref b) d_law_374 rfl rfl ?_
    refine ag_aloadV_n (v := .ref 0) d_law_375 rfl rfl ?_
    refine ag_iload d_law_376 rfl ?_
    refine ag_iconst d_law_378 ?_
    refine ag_iadd d_law_379 ?_
    refine lw_ld (j := 1) hL ht (by decide) d_law_380 ?_
    refine ag_callv (as := [.int (ag_xs G (5 * t + 1))]) d_law_381 ml_Lw_86 gw_1197 rfl sl_Md_seal (md_at0 hb1 S) (Nat.le_of_ble_eq_true rfl) (w_Md_seal hb1 (d := D + 1) (by omega) hM) (fun v9 h9 q9 => ?_)
    obtain ⟨rfl, rfl⟩ := q9
    refine ag_istore d_law_384 (by decide) ?_
    refine ag_aloadV_n (v := .ref b) d_law_386 rfl rfl ?_
    refine ag_callv (as := []) d_law_387 ml_Lw_67 gw_1082 rfl sl_Md_thrown (md_at0 hb1 S1) (Nat.le_of_ble_eq_true rfl) (w_Md_thrown hb1 (d := D + 1) (by omega) hT) (fun v9 h9 q9 => ?_)
    obtain ⟨rfl, rfl⟩ := q9
    refine ag_iload d_law_390 rfl ?_
    refine ag_icmp_eq d_law_392 rfl (fun _ => ?_) (fun q => absurd rfl q)
    refine ag_iload d_law_397 rfl ?_
    refine ag_if_ne d_law_399 rfl (fun q => absurd rfl q) (fun _ => ?_)
    refine ag_aloadV_n (v := .ref o) d_law_402 rfl rfl ?_
    refine ag_iconst d_law_403 ?_
    refine ag_lald (t := 3) d_law_404 rfl ho2 (md_in_ok (by decide)) ?_
    refine ag_iload d_law_405 rfl ?_
    refine ag_i2l d_law_407 ?_
    refine ag_lcmp d_law_408 ?_
    refine ag_if_eq d_law_409 rfl (fun _ => ?_) (fun q => absurd (lw_cmp0 _ _) q)
    refine ag_goto d_law_414 rfl ?_
    exact ag_dr (ag_d1 rfl (ag_d1 rfl (ag_d1 rfl (ag_d1 rfl (ag_d1 rfl ag_d0))))) (hK _ _ (hk f hf))
  · have hb1 : md_ok h1 b := lw_md w1
    replace hF : fn_GC_seal N C a (ag_xs G (5 * t + 1)) (md_up h b S) = some (.inr e, md_up h1 b S) := hF
    by_cases e9 : ci = 14
    · subst e9
      obtain rfl : (1 : Int32) = k := Option.some.inj hk
      refine ag_aloadV_n (v := .ref a) d_law_361 rfl rfl ?_
      refine ag_aloadV_n (v := .ref 0) d_law_362 rfl rfl ?_
      refine ag_iload d_law_363 rfl ?_
      refine ag_iconst d_law_365 ?_
      refine ag_iadd d_law_366 ?_
      refine lw_ld (j := 1) hL ht (by decide) d_law_367 ?_
      refine ag_aloadV_n (v := .ref o) d_law_368 rfl rfl ?_
      refine ag_callsW (Y := m_Lw_seal) (as := [.ref a, .int (ag_xs G (5 * t + 1)), .ref o]) d_law_369 gw_739 gw_0 gw_741 ⟨by decide, by decide⟩ pd_Lw_seal (by decide) gw_740 (Nat.le_of_ble_eq_true rfl) (u_Lw_seal_14 hC htr (d := D) (by omega) ha hF hx) (fun v9 h9 q9 => ?_)
      obtain ⟨rfl, rfl⟩ := q9
      refine ag_istore d_law_372 (by decide) ?_
      refine ag_aloadV_n (v := .ref b) d_law_374 rfl rfl ?_
      refine ag_aloadV_n (v := .ref 0) d_law_375 rfl rfl ?_
      refine ag_iload d_law_376 rfl ?_
      refine ag_iconst d_law_378 ?_
      refine ag_iadd d_law_379 ?_
      refine lw_ld (j := 1) hL ht (by decide) d_law_380 ?_
      refine ag_callv (as := [.int (ag_xs G (5 * t + 1))]) d_law_381 ml_Lw_86 gw_1197 rfl sl_Md_seal (md_at0 hb1 S) (Nat.le_of_ble_eq_true rfl) (w_Md_seal hb1 (d := D + 1) (by omega) hM) (fun v9 h9 q9 => ?_)
      obtain ⟨rfl, rfl⟩ := q9
      refine ag_istore d_law_384 (by decide) ?_
      refine ag_aloadV_n (v := .ref b) d_law_386 rfl rfl ?_
      refine ag_callv (as := []) d_law_387 ml_Lw_67 gw_1082 rfl sl_Md_thrown (md_at0 hb1 S1) (Nat.le_of_ble_eq_true rfl) (w_Md_thrown hb1 (d := D + 1) (by omega) hT) (fun v9 h9 q9 => ?_)
      obtain ⟨rfl, rfl⟩ := q9
      refine ag_iload d_law_390 rfl ?_
      refine ag_icmp_eq d_law_392 rfl (fun _ => ?_) (fun q => absurd rfl q)
      refine ag_iload d_law_397 rfl ?_
      refine ag_if_ne d_law_399 rfl (fun _ => ?_) (fun q => absurd q (by decide))
      refine ag_goto d_law_414 rfl ?_
      exact ag_dr (ag_d1 rfl (ag_d1 rfl (ag_d1 rfl (ag_d1 rfl (ag_d1 rfl ag_d0))))) (hK _ _ hk2)
    · have n14 := e9
      by_cases e9 : ci = 13
      · subst e9
        obtain rfl : (2 : Int32) = k := Option.some.inj hk
        refine ag_aloadV_n (v := .ref a) d_law_361 rfl rfl ?_
        refine ag_aloadV_n (v := .ref 0) d_law_362 rfl rfl ?_
        refine ag_iload d_law_363 rfl ?_
        refine ag_iconst d_law_365 ?_
        refine ag_iadd d_law_366 ?_
        refine lw_ld (j := 1) hL ht (by decide) d_law_367 ?_
        refine ag_aloadV_n (v := .ref o) d_law_368 rfl rfl ?_
        refine ag_callsW (Y := m_Lw_seal) (as := [.ref a, .int (ag_xs G (5 * t + 1)), .ref o]) d_law_369 gw_739 gw_0 gw_741 ⟨by decide, by decide⟩ pd_Lw_seal (by decide) gw_740 (Nat.le_of_ble_eq_true rfl) (u_Lw_seal_13 hC htr (d := D) (by omega) ha hF hx) (fun v9 h9 q9 => ?_)
        obtain ⟨rfl, rfl⟩ := q9
        refine ag_istore d_law_372 (by decide) ?_
        refine ag_aloadV_n (v := .ref b) d_law_374 rfl rfl ?_
        refine ag_aloadV_n (v := .ref 0) d_law_375 rfl rfl ?_
        refine ag_iload d_law_376 rfl ?_
        refine ag_iconst d_law_378 ?_
        refine ag_iadd d_law_379 ?_
        refine lw_ld (j := 1) hL ht (by decide) d_law_380 ?_
        refine ag_callv (as := [.int (ag_xs G (5 * t + 1))]) d_law_381 ml_Lw_86 gw_1197 rfl sl_Md_seal (md_at0 hb1 S) (Nat.le_of_ble_eq_true rfl) (w_Md_seal hb1 (d := D + 1) (by omega) hM) (fun v9 h9 q9 => ?_)
        obtain ⟨rfl, rfl⟩ := q9
        refine ag_istore d_law_384 (by decide) ?_
        refine ag_aloadV_n (v := .ref b) d_law_386 rfl rfl ?_
        refine ag_callv (as := []) d_law_387 ml_Lw_67 gw_1082 rfl sl_Md_thrown (md_at0 hb1 S1) (Nat.le_of_ble_eq_true rfl) (w_Md_thrown hb1 (d := D + 1) (by omega) hT) (fun v9 h9 q9 => ?_)
        obtain ⟨rfl, rfl⟩ := q9
        refine ag_iload d_law_390 rfl ?_
        refine ag_icmp_eq d_law_392 rfl (fun _ => ?_) (fun q => absurd rfl q)
        refine ag_iload d_law_397 rfl ?_
        refine ag_if_ne d_law_399 rfl (fun _ => ?_) (fun q => absurd q (by decide))
        refine ag_goto d_law_414 rfl ?_
        exact ag_dr (ag_d1 rfl (ag_d1 rfl (ag_d1 rfl (ag_d1 rfl (ag_d1 rfl ag_d0))))) (hK _ _ hk2)
      · have n13 := e9
        rw [kd_seal, if_neg n14, if_neg n13] at hk
        cases hk
theorem pd_Lw_tamper : (parseMethodDescriptor m_Lw_tamper.1.desc).map (fun d => d.parameters.length) = some 6 := by decide +kernel
def kd_tamper (ci : Nat) : Option Int32 := if ci = 14 then some 1 else if ci = 13 then some 2 else none
theorem lw_c8 {l : Launch} {G : ag_G} {D N a b o t : Nat} {C : Nat × Nat} (hC : ag_cN G = C.1 ∧ ag_cS G = C.2) (htr : ∀ e : Env, l.admits e → e.platform.stackTraces = false) (hD : 60 ≤ D) (hL : ag_Ln G ≤ 2560) (ht : 5 * t + 5 ≤ ag_Ln G) {h : ag_H} {S : MS} (w : lw_Wf a b o h) {Z : ag_Z} {K : ag_H → MS → Prop} (hKW : ∀ h1 S1, K h1 S1 → lw_Wf a b o h1) (hK : ∀ h1 S1, K h1 S1 → ag_ev gc_P l G m_law (D + 1 + 1) Z 800 [(0, .ref 0), (1, .ref a), (2, .ref b), (3, .ref o), (4, .int (Int32.ofNat (5 * t)))] [] (md_up h1 b S1)) (q0 : lw_T (fun h => fn_GC_tamper N C a (ag_xs G (5 * t + 1)) (ag_xs G (5 * t + 2)) (ag_xs G (5 * t + 3)) (ag_xs G (5 * t + 4)) h) (fun S => fn_Md_tamper N (ag_xs G (5 * t + 1)) (ag_xs G (5 * t + 2)) (ag_xs G (5 * t + 3)) (ag_xs G (5 * t + 4)) S) (fun S => fn_Md_thrown N S) kd_tamper a b o h S K) : ag_ev gc_P l G m_law (D + 1 + 1) Z 417 [(0, .ref 0), (1, .ref a), (2, .ref b), (3, .ref o), (4, .int (Int32.ofNat (5 * t)))] [] (md_up h b S) := by
  obtain ⟨fs, ha⟩ := lw_ata w S
  obtain ⟨y, S1, k, S2, hM, hT, hR⟩ := q0
  replace hM : fn_Md_tamper N (ag_xs G (5 * t + 1)) (ag_xs G (5 * t + 2)) (ag_xs G (5 * t + 3)) (ag_xs G (5 * t + 4)) S = some (y, S1) := hM
  replace hT : fn_Md_thrown N S1 = some (k, S2) := hT
  rcases hR with ⟨h1, hF, rfl, w1, hk⟩ | ⟨e, h1, ci, fx, hF, hx, hk, w1, hk2⟩
  · replace hF : fn_GC_tamper N C a (ag_xs G (5 * t + 1)) (ag_xs G (5 * t + 2)) (ag_xs G (5 * t + 3)) (ag_xs G (5 * t + 4)) (md_up h b S) = some (.inl y, md_up h1 b S) := hF
    obtain ⟨f, hf⟩ := w1.2.2
    have ho : ag_at (md_up h1 b S) (.ref o) = some (.inl (3, 1, .inr (.inl f))) := by rw [lw_ato w1.1.2.2.1 w1.1.2.2.2, hf]
    have hb1 : md_ok (ag_up h1 o (.inl (3, 1, .inr (.inl (vp_updL f 0 y.toInt64))))) b := show 2 ≤ b ∧ b + 21 < h1.1 from lw_md w1
    have ho2 : ag_at (md_up (ag_up h1 o (.inl (3, 1, .inr (.inl (vp_updL f 0 y.toInt64))))) b S2) (.ref o) = some (.inl (3, 1, .inr (.inl (vp_updL f 0 y.toInt64)))) := by
      rw [lw_ato (h := ag_up h1 o (.inl (3, 1, .inr (.inl (vp_updL f 0 y.toInt64))))) w1.1.2.2.1 w1.1.2.2.2]
      exact congrArg some (if_pos rfl)
    refine ag_aloadV_n (v := .ref a) d_law_417 rfl rfl ?_
    refine ag_aloadV_n (v := .ref 0) d_law_418 rfl rfl ?_
    refine ag_iload d_law_419 rfl ?_
    refine ag_iconst d_law_421 ?_
    refine ag_iadd d_law_422 ?_
    refine lw_ld (j := 1) hL ht (by decide) d_law_423 ?_
    refine ag_aloadV_n (v := .ref 0) d_law_424 rfl rfl ?_
    refine ag_iload d_law_425 rfl ?_
    refine ag_iconst d_law_427 ?_
    refine ag_iadd d_law_428 ?_
    refine lw_ld (j := 2) hL ht (by decide) d_law_429 ?_
    refine ag_aloadV_n (v := .ref 0) d_law_430 rfl rfl ?_
    refine ag_iload d_law_431 rfl ?_
    refine ag_iconst d_law_433 ?_
    refine ag_iadd d_law_434 ?_
    refine lw_ld (j := 3) hL ht (by decide) d_law_435 ?_
    refine ag_aloadV_n (v := .ref 0) d_law_436 rfl rfl ?_
    refine ag_iload d_law_437 rfl ?_
    refine ag_iconst d_law_439 ?_
    refine ag_iadd d_law_440 ?_
    refine lw_ld (j := 4) hL ht (by decide) d_law_441 ?_
    refine ag_aloadV_n (v := .ref o) d_law_442 rfl rfl ?_
    refine ag_callsW (Y := m_Lw_tamper) (as := [.ref a, .int (ag_xs G (5 * t + 1)), .int (ag_xs G (5 * t + 2)), .int (ag_xs G (5 * t + 3)), .int (ag_xs G (5 * t + 4)), .ref o]) d_law_443 gw_746 gw_0 gw_748 ⟨by decide, by decide⟩ pd_Lw_tamper (by decide) gw_747 (Nat.le_of_ble_eq_true rfl) (v_Lw_tamper hC htr (d := D) (by omega) ha hF ho) (fun v9 h9 q9 => ?_)
    obtain ⟨rfl, rfl⟩ := q9
    rw [lw_upo w1.1.2.2.1]
    refine ag_istore d_law_446 (by decide) ?_
    refine ag_aloadV_n (v := .ref b) d_law_448 rfl rfl ?_
    refine ag_aloadV_n (v := .ref 0) d_law_449 rfl rfl ?_
    refine ag_iload d_law_450 rfl ?_
    refine ag_iconst d_law_452 ?_
    refine ag_iadd d_law_453 ?_
    refine lw_ld (j := 1) hL ht (by decide) d_law_454 ?_
    refine ag_aloadV_n (v := .ref 0) d_law_455 rfl rfl ?_
    refine ag_iload d_law_456 rfl ?_
    refine ag_iconst d_law_458 ?_
    refine ag_iadd d_law_459 ?_
    refine lw_ld (j := 2) hL ht (by decide) d_law_460 ?_
    refine ag_aloadV_n (v := .ref 0) d_law_461 rfl rfl ?_
    refine ag_iload d_law_462 rfl ?_
    refine ag_iconst d_law_464 ?_
    refine ag_iadd d_law_465 ?_
    refine lw_ld (j := 3) hL ht (by decide) d_law_466 ?_
    refine ag_aloadV_n (v := .ref 0) d_law_467 rfl rfl ?_
    refine ag_iload d_law_468 rfl ?_
    refine ag_iconst d_law_470 ?_
    refine ag_iadd d_law_471 ?_
    refine lw_ld (j := 4) hL ht (by decide) d_law_472 ?_
    refine ag_callv (as := [.int (ag_xs G (5 * t + 1)), .int (ag_xs G (5 * t + 2)), .int (ag_xs G (5 * t + 3)), .int (ag_xs G (5 * t + 4))]) d_law_473 ml_Lw_90 gw_1201 rfl sl_Md_tamper (md_at0 hb1 S) (Nat.le_of_ble_eq_true rfl) (w_Md_tamper hb1 (d := D + 1) (by omega) hM) (fun v9 h9 q9 => ?_)
    obtain ⟨rfl, rfl⟩ := q9
    refine ag_istore d_law_476 (by decide) ?_
    refine ag_aloadV_n (v := .ref b) d_law_478 rfl rfl ?_
    refine ag_callv (as := []) d_law_479 ml_Lw_67 gw_1082 rfl sl_Md_thrown (md_at0 hb1 S1) (Nat.le_of_ble_eq_true rfl) (w_Md_thrown hb1 (d := D + 1) (by omega) hT) (fun v9 h9 q9 => ?_)
    obtain ⟨rfl, rfl⟩ := q9
    refine ag_iload d_law_482 rfl ?_
    refine ag_icmp_eq d_law_484 rfl (fun _ => ?_) (fun q => absurd rfl q)
    refine ag_iload d_law_489 rfl ?_
    refine ag_if_ne d_law_491 rfl (fun q => absurd rfl q) (fun _ => ?_)
    refine ag_aloadV_n (v := .ref o) d_law_494 rfl rfl ?_
    refine ag_iconst d_law_495 ?_
    refine ag_lald (t := 3) d_law_496 rfl ho2 (md_in_ok (by decide)) ?_
    refine ag_iload d_law_497 rfl ?_
    refine ag_i2l d_law_499 ?_
    refine ag_lcmp d_law_500 ?_
    refine ag_if_eq d_law_501 rfl (fun _ => ?_) (fun q => absurd (lw_cmp0 _ _) q)
    refine ag_goto d_law_506 rfl ?_
    exact ag_dr (ag_d1 rfl (ag_d1 rfl (ag_d1 rfl (ag_d1 rfl (ag_d1 rfl ag_d0))))) (hK _ _ (hk f hf))
  · have hb1 : md_ok h1 b := lw_md w1
    replace hF : fn_GC_tamper N C a (ag_xs G (5 * t + 1)) (ag_xs G (5 * t + 2)) (ag_xs G (5 * t + 3)) (ag_xs G (5 * t + 4)) (md_up h b S) = some (.inr e, md_up h1 b S) := hF
    by_cases e9 : ci = 14
    · subst e9
      obtain rfl : (1 : Int32) = k := Option.some.inj hk
      refine ag_aloadV_n (v := .ref a) d_law_417 rfl rfl ?_
      refine ag_aloadV_n (v := .ref 0) d_law_418 rfl rfl ?_
      refine ag_iload d_law_419 rfl ?_
      refine ag_iconst d_law_421 ?_
      refine ag_iadd d_law_422 ?_
      refine lw_ld (j := 1) hL ht (by decide) d_law_423 ?_
      refine ag_aloadV_n (v := .ref 0) d_law_424 rfl rfl ?_
      refine ag_iload d_law_425 rfl ?_
      refine ag_iconst d_law_427 ?_
      refine ag_iadd d_law_428 ?_
      refine lw_ld (j := 2) hL ht (by decide) d_law_429 ?_
      refine ag_aloadV_n (v := .ref 0) d_law_430 rfl rfl ?_
      refine ag_iload d_law_431 rfl ?_
      refine ag_iconst d_law_433 ?_
      refine ag_iadd d_law_434 ?_
      refine lw_ld (j := 3) hL ht (by decide) d_law_435 ?_
      refine ag_aloadV_n (v := .ref 0) d_law_436 rfl rfl ?_
      refine ag_iload d_law_437 rfl ?_
      refine ag_iconst d_law_439 ?_
      refine ag_iadd d_law_440 ?_
      refine lw_ld (j := 4) hL ht (by decide) d_law_441 ?_
      refine ag_aloadV_n (v := .ref o) d_law_442 rfl rfl ?_
      refine ag_callsW (Y := m_Lw_tamper) (as := [.ref a, .int (ag_xs G (5 * t + 1)), .int (ag_xs G (5 * t + 2)), .int (ag_xs G (5 * t + 3)), .int (ag_xs G (5 * t + 4)), .ref o]) d_law_443 gw_746 gw_0 gw_748 ⟨by decide, by decide⟩ pd_Lw_tamper (by decide) gw_747 (Nat.le_of_ble_eq_true rfl) (u_Lw_tamper_14 hC htr (d := D) (by omega) ha hF hx) (fun v9 h9 q9 => ?_)
      obtain ⟨rfl, rfl⟩ := q9
      refine ag_istore d_law_446 (by decide) ?_
      refine ag_aloadV_n (v := .ref b) d_law_448 rfl rfl ?_
      refine ag_aloadV_n (v := .ref 0) d_law_449 rfl rfl ?_
      refine ag_iload d_law_450 rfl ?_
      refine ag_iconst d_law_452 ?_
      refine ag_iadd d_law_453 ?_
      refine lw_ld (j := 1) hL ht (by decide) d_law_454 ?_
      refine ag_aloadV_n (v := .ref 0) d_law_455 rfl rfl ?_
      refine ag_iload d_law_456 rfl ?_
      refine ag_iconst d_law_458 ?_
      refine ag_iadd d_law_459 ?_
      refine lw_ld (j := 2) hL ht (by decide) d_law_460 ?_
      refine ag_aloadV_n (v := .ref 0) d_law_461 rfl rfl ?_
      refine ag_iload d_law_462 rfl ?_
      refine ag_iconst d_law_464 ?_
      refine ag_iadd d_law_465 ?_
      refine lw_ld (j := 3) hL ht (by decide) d_law_466 ?_
      refine ag_aloadV_n (v := .ref 0) d_law_467 rfl rfl ?_
      refine ag_iload d_law_468 rfl ?_
      refine ag_iconst d_law_470 ?_
      refine ag_iadd d_law_471 ?_
      refine lw_ld (j := 4) hL ht (by decide) d_law_472 ?_
      refine ag_callv (as := [.int (ag_xs G (5 * t + 1)), .int (ag_xs G (5 * t + 2)), .int (ag_xs G (5 * t + 3)), .int (ag_xs G (5 * t + 4))]) d_law_473 ml_Lw_90 gw_1201 rfl sl_Md_tamper (md_at0 hb1 S) (Nat.le_of_ble_eq_true rfl) (w_Md_tamper hb1 (d := D + 1) (by omega) hM) (fun v9 h9 q9 => ?_)
      obtain ⟨rfl, rfl⟩ := q9
      refine ag_istore d_law_476 (by decide) ?_
      refine ag_aloadV_n (v := .ref b) d_law_478 rfl rfl ?_
      refine ag_callv (as := []) d_law_479 ml_Lw_67 gw_1082 rfl sl_Md_thrown (md_at0 hb1 S1) (Nat.le_of_ble_eq_true rfl) (w_Md_thrown hb1 (d := D + 1) (by omega) hT) (fun v9 h9 q9 => ?_)
      obtain ⟨rfl, rfl⟩ := q9
      refine ag_iload d_law_482 rfl ?_
      refine ag_icmp_eq d_law_484 rfl (fun _ => ?_) (fun q => absurd rfl q)
      refine ag_iload d_law_489 rfl ?_
      refine ag_if_ne d_law_491 rfl (fun _ => ?_) (fun q => absurd q (by decide))
      refine ag_goto d_law_506 rfl ?_
      exact ag_dr (ag_d1 rfl (ag_d1 rfl (ag_d1 rfl (ag_d1 rfl (ag_d1 rfl ag_d0))))) (hK _ _ hk2)
    · have n14 := e9
      by_cases e9 : ci = 13
      · subst e9
        obtain rfl : (2 : Int32) = k := Option.some.inj hk
        refine ag_aloadV_n (v := .ref a) d_law_417 rfl rfl ?_
        refine ag_aloadV_n (v := .ref 0) d_law_418 rfl rfl ?_
        refine ag_iload d_law_419 rfl ?_
        refine ag_iconst d_law_421 ?_
        refine ag_iadd d_law_422 ?_
        refine lw_ld (j := 1) hL ht (by decide) d_law_423 ?_
        refine ag_aloadV_n (v := .ref 0) d_law_424 rfl rfl ?_
        refine ag_iload d_law_425 rfl ?_
        refine ag_iconst d_law_427 ?_
        refine ag_iadd d_law_428 ?_
        refine lw_ld (j := 2) hL ht (by decide) d_law_429 ?_
        refine ag_aloadV_n (v := .ref 0) d_law_430 rfl rfl ?_
        refine ag_iload d_law_431 rfl ?_
        refine ag_iconst d_law_433 ?_
        refine ag_iadd d_law_434 ?_
        refine lw_ld (j := 3) hL ht (by decide) d_law_435 ?_
        refine ag_aloadV_n (v := .ref 0) d_law_436 rfl rfl ?_
        refine ag_iload d_law_437 rfl ?_
        refine ag_iconst d_law_439 ?_
        refine ag_iadd d_law_440 ?_
        refine lw_ld (j := 4) hL ht (by decide) d_law_441 ?_
        refine ag_aloadV_n (v := .ref o) d_law_442 rfl rfl ?_
        refine ag_callsW (Y := m_Lw_tamper) (as := [.ref a, .int (ag_xs G (5 * t + 1)), .int (ag_xs G (5 * t + 2)), .int (ag_xs G (5 * t + 3)), .int (ag_xs G (5 * t + 4)), .ref o]) d_law_443 gw_746 gw_0 gw_748 ⟨by decide, by decide⟩ pd_Lw_tamper (by decide) gw_747 (Nat.le_of_ble_eq_true rfl) (u_Lw_tamper_13 hC htr (d := D) (by omega) ha hF hx) (fun v9 h9 q9 => ?_)
        obtain ⟨rfl, rfl⟩ := q9
        refine ag_istore d_law_446 (by decide) ?_
        refine ag_aloadV_n (v := .ref b) d_law_448 rfl rfl ?_
        refine ag_aloadV_n (v := .ref 0) d_law_449 rfl rfl ?_
        refine ag_iload d_law_450 rfl ?_
        refine ag_iconst d_law_452 ?_
        refine ag_iadd d_law_453 ?_
        refine lw_ld (j := 1) hL ht (by decide) d_law_454 ?_
        refine ag_aloadV_n (v := .ref 0) d_law_455 rfl rfl ?_
        refine ag_iload d_law_456 rfl ?_
        refine ag_iconst d_law_458 ?_
        refine ag_iadd d_law_459 ?_
        refine lw_ld (j := 2) hL ht (by decide) d_law_460 ?_
        refine ag_aloadV_n (v := .ref 0) d_law_461 rfl rfl ?_
        refine ag_iload d_law_462 rfl ?_
        refine ag_iconst d_law_464 ?_
        refine ag_iadd d_law_465 ?_
        refine lw_ld (j := 3) hL ht (by decide) d_law_466 ?_
        refine ag_aloadV_n (v := .ref 0) d_law_467 rfl rfl ?_
        refine ag_iload d_law_468 rfl ?_
        refine ag_iconst d_law_470 ?_
        refine ag_iadd d_law_471 ?_
        refine lw_ld (j := 4) hL ht (by decide) d_law_472 ?_
        refine ag_callv (as := [.int (ag_xs G (5 * t + 1)), .int (ag_xs G (5 * t + 2)), .int (ag_xs G (5 * t + 3)), .int (ag_xs G (5 * t + 4))]) d_law_473 ml_Lw_90 gw_1201 rfl sl_Md_tamper (md_at0 hb1 S) (Nat.le_of_ble_eq_true rfl) (w_Md_tamper hb1 (d := D + 1) (by omega) hM) (fun v9 h9 q9 => ?_)
        obtain ⟨rfl, rfl⟩ := q9
        refine ag_istore d_law_476 (by decide) ?_
        refine ag_aloadV_n (v := .ref b) d_law_478 rfl rfl ?_
        refine ag_callv (as := []) d_law_479 ml_Lw_67 gw_1082 rfl sl_Md_thrown (md_at0 hb1 S1) (Nat.le_of_ble_eq_true rfl) (w_Md_thrown hb1 (d := D + 1) (by omega) hT) (fun v9 h9 q9 => ?_)
        obtain ⟨rfl, rfl⟩ := q9
        refine ag_iload d_law_482 rfl ?_
        refine ag_icmp_eq d_law_484 rfl (fun _ => ?_) (fun q => absurd rfl q)
        refine ag_iload d_law_489 rfl ?_
        refine ag_if_ne d_law_491 rfl (fun _ => ?_) (fun q => absurd q (by decide))
        refine ag_goto d_law_506 rfl ?_
        exact ag_dr (ag_d1 rfl (ag_d1 rfl (ag_d1 rfl (ag_d1 rfl (ag_d1 rfl ag_d0))))) (hK _ _ hk2)
      · have n13 := e9
        rw [kd_tamper, if_neg n14, if_neg n13] at hk
        cases hk
theorem lw_c9 {l : Launch} {G : ag_G} {D N a b o t : Nat} {C : Nat × Nat} (hC : ag_cN G = C.1 ∧ ag_cS G = C.2) (htr : ∀ e : Env, l.admits e → e.platform.stackTraces = false) (hD : 60 ≤ D) (hL : ag_Ln G ≤ 2560) (ht : 5 * t + 5 ≤ ag_Ln G) {h : ag_H} {S : MS} (w : lw_Wf a b o h) {Z : ag_Z} {K : ag_H → MS → Prop} (hKW : ∀ h1 S1, K h1 S1 → lw_Wf a b o h1) (hK : ∀ h1 S1, K h1 S1 → ag_ev gc_P l G m_law (D + 1 + 1) Z 800 [(0, .ref 0), (1, .ref a), (2, .ref b), (3, .ref o), (4, .int (Int32.ofNat (5 * t)))] [] (md_up h1 b S1)) (q0 : lw_D (fun h => fn_GC_limits N C a (ag_xs G (5 * t + 1)) (ag_xs G (5 * t + 2)) h) (fun S => fn_Md_limits N (ag_xs G (5 * t + 1)) (ag_xs G (5 * t + 2)) S) b h S K) : ag_ev gc_P l G m_law (D + 1 + 1) Z 509 [(0, .ref 0), (1, .ref a), (2, .ref b), (3, .ref o), (4, .int (Int32.ofNat (5 * t)))] [] (md_up h b S) := by
  obtain ⟨fs, ha⟩ := lw_ata w S
  obtain ⟨x, h1, S1, hF, hM, hk⟩ := q0
  replace hF : fn_GC_limits N C a (ag_xs G (5 * t + 1)) (ag_xs G (5 * t + 2)) (md_up h b S) = some (x, md_up h1 b S) := hF
  replace hM : fn_Md_limits N (ag_xs G (5 * t + 1)) (ag_xs G (5 * t + 2)) S = some (x, S1) := hM
  have hb1 : md_ok h1 b := lw_md (hKW _ _ hk)
  refine ag_aloadV_n (v := .ref a) d_law_509 rfl rfl ?_
  refine ag_aloadV_n (v := .ref 0) d_law_510 rfl rfl ?_
  refine ag_iload d_law_511 rfl ?_
  refine ag_iconst d_law_513 ?_
  refine ag_iadd d_law_514 ?_
  refine lw_ld (j := 1) hL ht (by decide) d_law_515 ?_
  refine ag_aloadV_n (v := .ref 0) d_law_516 rfl rfl ?_
  refine ag_iload d_law_517 rfl ?_
  refine ag_iconst d_law_519 ?_
  refine ag_iadd d_law_520 ?_
  refine lw_ld (j := 2) hL ht (by decide) d_law_521 ?_
  refine ag_callv (as := [.int (ag_xs G (5 * t + 1)), .int (ag_xs G (5 * t + 2))]) d_law_522 ml_Lw_91 gw_257 rfl sl_GC_limits ha (Nat.le_of_ble_eq_true rfl) (w_GC_limits hC (d := D + 1) (by omega) hF) (fun v9 h9 q9 => ?_)
  obtain ⟨rfl, rfl⟩ := q9
  refine ag_aloadV_n (v := .ref b) d_law_525 rfl rfl ?_
  refine ag_aloadV_n (v := .ref 0) d_law_526 rfl rfl ?_
  refine ag_iload d_law_527 rfl ?_
  refine ag_iconst d_law_529 ?_
  refine ag_iadd d_law_530 ?_
  refine lw_ld (j := 1) hL ht (by decide) d_law_531 ?_
  refine ag_aloadV_n (v := .ref 0) d_law_532 rfl rfl ?_
  refine ag_iload d_law_533 rfl ?_
  refine ag_iconst d_law_535 ?_
  refine ag_iadd d_law_536 ?_
  refine lw_ld (j := 2) hL ht (by decide) d_law_537 ?_
  refine ag_callv (as := [.int (ag_xs G (5 * t + 1)), .int (ag_xs G (5 * t + 2))]) d_law_538 ml_Lw_95 gw_1213 rfl sl_Md_limits (md_at0 hb1 S) (Nat.le_of_ble_eq_true rfl) (w_Md_limits hb1 (d := D + 1) (by omega) hM) (fun v9 h9 q9 => ?_)
  obtain ⟨rfl, rfl⟩ := q9
  refine ag_icmp_eq d_law_541 rfl (fun _ => ?_) (fun q => absurd rfl q)
  exact ag_dr (ag_d1 rfl (ag_d1 rfl (ag_d1 rfl (ag_d1 rfl (ag_d1 rfl ag_d0))))) (hK _ _ hk)
theorem pd_Lw_authorize : (parseMethodDescriptor m_Lw_authorize.1.desc).map (fun d => d.parameters.length) = some 4 := by decide +kernel
def kd_authorize (ci : Nat) : Option Int32 := if ci = 14 then some 1 else if ci = 12 then some 2 else none
theorem lw_c10 {l : Launch} {G : ag_G} {D N a b o t : Nat} {C : Nat × Nat} (hC : ag_cN G = C.1 ∧ ag_cS G = C.2) (htr : ∀ e : Env, l.admits e → e.platform.stackTraces = false) (hD : 60 ≤ D) (hL : ag_Ln G ≤ 2560) (ht : 5 * t + 5 ≤ ag_Ln G) {h : ag_H} {S : MS} (w : lw_Wf a b o h) {Z : ag_Z} {K : ag_H → MS → Prop} (hKW : ∀ h1 S1, K h1 S1 → lw_Wf a b o h1) (hK : ∀ h1 S1, K h1 S1 → ag_ev gc_P l G m_law (D + 1 + 1) Z 800 [(0, .ref 0), (1, .ref a), (2, .ref b), (3, .ref o), (4, .int (Int32.ofNat (5 * t)))] [] (md_up h1 b S1)) (q0 : lw_T (fun h => fn_GC_authorize N C a (ag_xs G (5 * t + 1)) (ag_xs G (5 * t + 2)) h) (fun S => fn_Md_authorize N (ag_xs G (5 * t + 1)) (ag_xs G (5 * t + 2)) S) (fun S => fn_Md_thrown N S) kd_authorize a b o h S K) : ag_ev gc_P l G m_law (D + 1 + 1) Z 546 [(0, .ref 0), (1, .ref a), (2, .ref b), (3, .ref o), (4, .int (Int32.ofNat (5 * t)))] [] (md_up h b S) := by
  obtain ⟨fs, ha⟩ := lw_ata w S
  obtain ⟨y, S1, k, S2, hM, hT, hR⟩ := q0
  replace hM : fn_Md_authorize N (ag_xs G (5 * t + 1)) (ag_xs G (5 * t + 2)) S = some (y, S1) := hM
  replace hT : fn_Md_thrown N S1 = some (k, S2) := hT
  rcases hR with ⟨h1, hF, rfl, w1, hk⟩ | ⟨e, h1, ci, fx, hF, hx, hk, w1, hk2⟩
  · replace hF : fn_GC_authorize N C a (ag_xs G (5 * t + 1)) (ag_xs G (5 * t + 2)) (md_up h b S) = some (.inl y, md_up h1 b S) := hF
    obtain ⟨f, hf⟩ := w1.2.2
    have ho : ag_at (md_up h1 b S) (.ref o) = some (.inl (3, 1, .inr (.inl f))) := by rw [lw_ato w1.1.2.2.1 w1.1.2.2.2, hf]
    have hb1 : md_ok (ag_up h1 o (.inl (3, 1, .inr (.inl (vp_updL f 0 y.toInt64))))) b := show 2 ≤ b ∧ b + 21 < h1.1 from lw_md w1
    have ho2 : ag_at (md_up (ag_up h1 o (.inl (3, 1, .inr (.inl (vp_updL f 0 y.toInt64))))) b S2) (.ref o) = some (.inl (3, 1, .inr (.inl (vp_updL f 0 y.toInt64)))) := by
      rw [lw_ato (h := ag_up h1 o (.inl (3, 1, .inr (.inl (vp_updL f 0 y.toInt64))))) w1.1.2.2.1 w1.1.2.2.2]
      exact congrArg some (if_pos rfl)
    refine ag_aloadV_n (v := .ref a) d_law_546 rfl rfl ?_
    refine ag_aloadV_n (v := .ref 0) d_law_547 rfl rfl ?_
    refine ag_iload d_law_548 rfl ?_
    refine ag_iconst d_law_550 ?_
    refine ag_iadd d_law_551 ?_
    refine lw_ld (j := 1) hL ht (by decide) d_law_552 ?_
    refine ag_aloadV_n (v := .ref 0) d_law_553 rfl rfl ?_
    refine ag_iload d_law_554 rfl ?_
    refine ag_iconst d_law_556 ?_
    refine ag_iadd d_law_557 ?_
    refine lw_ld (j := 2) hL ht (by decide) d_law_558 ?_
    refine ag_aloadV_n (v := .ref o) d_law_559 rfl rfl ?_
    refine ag_callsW (Y := m_Lw_authorize) (as := [.ref a, .int (ag_xs G (5 * t + 1)), .int (ag_xs G (5 * t + 2)), .ref o]) d_law_560 gw_801 gw_0 gw_803 ⟨by decide, by decide⟩ pd_Lw_authorize (by decide) gw_802 (Nat.le_of_ble_eq_true rfl) (v_Lw_authorize hC htr (d := D) (by omega) ha hF ho) (fun v9 h9 q9 => ?_)
    obtain ⟨rfl, rfl⟩ := q9
    rw [lw_upo w1.1.2.2.1]
    refine ag_istore d_law_563 (by decide) ?_
    refine ag_aloadV_n (v := .ref b) d_law_565 rfl rfl ?_
    refine ag_aloadV_n (v := .ref 0) d_law_566 rfl rfl ?_
    refine ag_iload d_law_567 rfl ?_
    refine ag_iconst d_law_569 ?_
    refine ag_iadd d_law_570 ?_
    refine lw_ld (j := 1) hL ht (by decide) d_law_571 ?_
    refine ag_aloadV_n (v := .ref 0) d_law_572 rfl rfl ?_
    refine ag_iload d_law_573 rfl ?_
    refine ag_iconst d_law_575 ?_
    refine ag_iadd d_law_576 ?_
    refine lw_ld (j := 2) hL ht (by decide) d_law_577 ?_
    refine ag_callv (as := [.int (ag_xs G (5 * t + 1)), .int (ag_xs G (5 * t + 2))]) d_law_578 ml_Lw_99 gw_1217 rfl sl_Md_authorize (md_at0 hb1 S) (Nat.le_of_ble_eq_true rfl) (w_Md_authorize hb1 (d := D + 1) (by omega) hM) (fun v9 h9 q9 => ?_)
    obtain ⟨rfl, rfl⟩ := q9
    refine ag_istore d_law_581 (by decide) ?_
    refine ag_aloadV_n (v := .ref b) d_law_583 rfl rfl ?_
    refine ag_callv (as := []) d_law_584 ml_Lw_67 gw_1082 rfl sl_Md_thrown (md_at0 hb1 S1) (Nat.le_of_ble_eq_true rfl) (w_Md_thrown hb1 (d := D + 1) (by omega) hT) (fun v9 h9 q9 => ?_)
    obtain ⟨rfl, rfl⟩ := q9
    refine ag_iload d_law_587 rfl ?_
    refine ag_icmp_eq d_law_589 rfl (fun _ => ?_) (fun q => absurd rfl q)
    refine ag_iload d_law_594 rfl ?_
    refine ag_if_ne d_law_596 rfl (fun q => absurd rfl q) (fun _ => ?_)
    refine ag_aloadV_n (v := .ref o) d_law_599 rfl rfl ?_
    refine ag_iconst d_law_600 ?_
    refine ag_lald (t := 3) d_law_601 rfl ho2 (md_in_ok (by decide)) ?_
    refine ag_iload d_law_602 rfl ?_
    refine ag_i2l d_law_604 ?_
    refine ag_lcmp d_law_605 ?_
    refine ag_if_eq d_law_606 rfl (fun _ => ?_) (fun q => absurd (lw_cmp0 _ _) q)
    refine ag_goto d_law_611 rfl ?_
    exact ag_dr (ag_d1 rfl (ag_d1 rfl (ag_d1 rfl (ag_d1 rfl (ag_d1 rfl ag_d0))))) (hK _ _ (hk f hf))
  · have hb1 : md_ok h1 b := lw_md w1
    replace hF : fn_GC_authorize N C a (ag_xs G (5 * t + 1)) (ag_xs G (5 * t + 2)) (md_up h b S) = some (.inr e, md_up h1 b S) := hF
    by_cases e9 : ci = 14
    · subst e9
      obtain rfl : (1 : Int32) = k := Option.some.inj hk
      refine ag_aloadV_n (v := .ref a) d_law_546 rfl rfl ?_
      refine ag_aloadV_n (v := .ref 0) d_law_547 rfl rfl ?_
      refine ag_iload d_law_548 rfl ?_
      refine ag_iconst d_law_550 ?_
      refine ag_iadd d_law_551 ?_
      refine lw_ld (j := 1) hL ht (by decide) d_law_552 ?_
      refine ag_aloadV_n (v := .ref 0) d_law_553 rfl rfl ?_
      refine ag_iload d_law_554 rfl ?_
      refine ag_iconst d_law_556 ?_
      refine ag_iadd d_law_557 ?_
      refine lw_ld (j := 2) hL ht (by decide) d_law_558 ?_
      refine ag_aloadV_n (v := .ref o) d_law_559 rfl rfl ?_
      refine ag_callsW (Y := m_Lw_authorize) (as := [.ref a, .int (ag_xs G (5 * t + 1)), .int (ag_xs G (5 * t + 2)), .ref o]) d_law_560 gw_801 gw_0 gw_803 ⟨by decide, by decide⟩ pd_Lw_authorize (by decide) gw_802 (Nat.le_of_ble_eq_true rfl) (u_Lw_authorize_14 hC htr (d := D) (by omega) ha hF hx) (fun v9 h9 q9 => ?_)
      obtain ⟨rfl, rfl⟩ := q9
      refine ag_istore d_law_563 (by decide) ?_
      refine ag_aloadV_n (v := .ref b) d_law_565 rfl rfl ?_
      refine ag_aloadV_n (v := .ref 0) d_law_566 rfl rfl ?_
      refine ag_iload d_law_567 rfl ?_
      refine ag_iconst d_law_569 ?_
      refine ag_iadd d_law_570 ?_
      refine lw_ld (j := 1) hL ht (by decide) d_law_571 ?_
      refine ag_aloadV_n (v := .ref 0) d_law_572 rfl rfl ?_
      refine ag_iload d_law_573 rfl ?_
      refine ag_iconst d_law_575 ?_
      refine ag_iadd d_law_576 ?_
      refine lw_ld (j := 2) hL ht (by decide) d_law_577 ?_
      refine ag_callv (as := [.int (ag_xs G (5 * t + 1)), .int (ag_xs G (5 * t + 2))]) d_law_578 ml_Lw_99 gw_1217 rfl sl_Md_authorize (md_at0 hb1 S) (Nat.le_of_ble_eq_true rfl) (w_Md_authorize hb1 (d := D + 1) (by omega) hM) (fun v9 h9 q9 => ?_)
      obtain ⟨rfl, rfl⟩ := q9
      refine ag_istore d_law_581 (by decide) ?_
      refine ag_aloadV_n (v := .ref b) d_law_583 rfl rfl ?_
      refine ag_callv (as := []) d_law_584 ml_Lw_67 gw_1082 rfl sl_Md_thrown (md_at0 hb1 S1) (Nat.le_of_ble_eq_true rfl) (w_Md_thrown hb1 (d := D + 1) (by omega) hT) (fun v9 h9 q9 => ?_)
      obtain ⟨rfl, rfl⟩ := q9
      refine ag_iload d_law_587 rfl ?_
      refine ag_icmp_eq d_law_589 rfl (fun _ => ?_) (fun q => absurd rfl q)
      refine ag_iload d_law_594 rfl ?_
      refine ag_if_ne d_law_596 rfl (fun _ => ?_) (fun q => absurd q (by decide))
      refine ag_goto d_law_611 rfl ?_
      exact ag_dr (ag_d1 rfl (ag_d1 rfl (ag_d1 rfl (ag_d1 rfl (ag_d1 rfl ag_d0))))) (hK _ _ hk2)
    · have n14 := e9
      by_cases e9 : ci = 12
      · subst e9
        obtain rfl : (2 : Int32) = k := Option.some.inj hk
        refine ag_aloadV_n (v := .ref a) d_law_546 rfl rfl ?_
        refine ag_aloadV_n (v := .ref 0) d_law_547 rfl rfl ?_
        refine ag_iload d_law_548 rfl ?_
        refine ag_iconst d_law_550 ?_
        refine ag_iadd d_law_551 ?_
        refine lw_ld (j := 1) hL ht (by decide) d_law_552 ?_
        refine ag_aloadV_n (v := .ref 0) d_law_553 rfl rfl ?_
        refine ag_iload d_law_554 rfl ?_
        refine ag_iconst d_law_556 ?_
        refine ag_iadd d_law_557 ?_
        refine lw_ld (j := 2) hL ht (by decide) d_law_558 ?_
        refine ag_aloadV_n (v := .ref o) d_law_559 rfl rfl ?_
        refine ag_callsW (Y := m_Lw_authorize) (as := [.ref a, .int (ag_xs G (5 * t + 1)), .int (ag_xs G (5 * t + 2)), .ref o]) d_law_560 gw_801 gw_0 gw_803 ⟨by decide, by decide⟩ pd_Lw_authorize (by decide) gw_802 (Nat.le_of_ble_eq_true rfl) (u_Lw_authorize_12 hC htr (d := D) (by omega) ha hF hx) (fun v9 h9 q9 => ?_)
        obtain ⟨rfl, rfl⟩ := q9
        refine ag_istore d_law_563 (by decide) ?_
        refine ag_aloadV_n (v := .ref b) d_law_565 rfl rfl ?_
        refine ag_aloadV_n (v := .ref 0) d_law_566 rfl rfl ?_
        refine ag_iload d_law_567 rfl ?_
        refine ag_iconst d_law_569 ?_
        refine ag_iadd d_law_570 ?_
        refine lw_ld (j := 1) hL ht (by decide) d_law_571 ?_
        refine ag_aloadV_n (v := .ref 0) d_law_572 rfl rfl ?_
        refine ag_iload d_law_573 rfl ?_
        refine ag_iconst d_law_575 ?_
        refine ag_iadd d_law_576 ?_
        refine lw_ld (j := 2) hL ht (by decide) d_law_577 ?_
        refine ag_callv (as := [.int (ag_xs G (5 * t + 1)), .int (ag_xs G (5 * t + 2))]) d_law_578 ml_Lw_99 gw_1217 rfl sl_Md_authorize (md_at0 hb1 S) (Nat.le_of_ble_eq_true rfl) (w_Md_authorize hb1 (d := D + 1) (by omega) hM) (fun v9 h9 q9 => ?_)
        obtain ⟨rfl, rfl⟩ := q9
        refine ag_istore d_law_581 (by decide) ?_
        refine ag_aloadV_n (v := .ref b) d_law_583 rfl rfl ?_
        refine ag_callv (as := []) d_law_584 ml_Lw_67 gw_1082 rfl sl_Md_thrown (md_at0 hb1 S1) (Nat.le_of_ble_eq_true rfl) (w_Md_thrown hb1 (d := D + 1) (by omega) hT) (fun v9 h9 q9 => ?_)
        obtain ⟨rfl, rfl⟩ := q9
        refine ag_iload d_law_587 rfl ?_
        refine ag_icmp_eq d_law_589 rfl (fun _ => ?_) (fun q => absurd rfl q)
        refine ag_iload d_law_594 rfl ?_
        refine ag_if_ne d_law_596 rfl (fun _ => ?_) (fun q => absurd q (by decide))
        refine ag_goto d_law_611 rfl ?_
        exact ag_dr (ag_d1 rfl (ag_d1 rfl (ag_d1 rfl (ag_d1 rfl (ag_d1 rfl ag_d0))))) (hK _ _ hk2)
      · have n12 := e9
        rw [kd_authorize, if_neg n14, if_neg n12] at hk
        cases hk
theorem lw_c11 {l : Launch} {G : ag_G} {D N a b o t : Nat} {C : Nat × Nat} (hC : ag_cN G = C.1 ∧ ag_cS G = C.2) (htr : ∀ e : Env, l.admits e → e.platform.stackTraces = false) (hD : 60 ≤ D) (hL : ag_Ln G ≤ 2560) (ht : 5 * t + 5 ≤ ag_Ln G) {h : ag_H} {S : MS} (w : lw_Wf a b o h) {Z : ag_Z} {K : ag_H → MS → Prop} (hKW : ∀ h1 S1, K h1 S1 → lw_Wf a b o h1) (hK : ∀ h1 S1, K h1 S1 → ag_ev gc_P l G m_law (D + 1 + 1) Z 800 [(0, .ref 0), (1, .ref a), (2, .ref b), (3, .ref o), (4, .int (Int32.ofNat (5 * t)))] [] (md_up h1 b S1)) (q0 : lw_D (fun h => fn_GC_latest N C a (ag_xs G (5 * t + 1)) h) (fun S => fn_Md_latest N (ag_xs G (5 * t + 1)) S) b h S K) : ag_ev gc_P l G m_law (D + 1 + 1) Z 614 [(0, .ref 0), (1, .ref a), (2, .ref b), (3, .ref o), (4, .int (Int32.ofNat (5 * t)))] [] (md_up h b S) := by
  obtain ⟨fs, ha⟩ := lw_ata w S
  obtain ⟨x, h1, S1, hF, hM, hk⟩ := q0
  replace hF : fn_GC_latest N C a (ag_xs G (5 * t + 1)) (md_up h b S) = some (x, md_up h1 b S) := hF
  replace hM : fn_Md_latest N (ag_xs G (5 * t + 1)) S = some (x, S1) := hM
  have hb1 : md_ok h1 b := lw_md (hKW _ _ hk)
  refine ag_aloadV_n (v := .ref a) d_law_614 rfl rfl ?_
  refine ag_aloadV_n (v := .ref 0) d_law_615 rfl rfl ?_
  refine ag_iload d_law_616 rfl ?_
  refine ag_iconst d_law_618 ?_
  refine ag_iadd d_law_619 ?_
  refine lw_ld (j := 1) hL ht (by decide) d_law_620 ?_
  refine ag_callv (as := [.int (ag_xs G (5 * t + 1))]) d_law_621 ml_Lw_100 gw_261 rfl sl_GC_latest ha (Nat.le_of_ble_eq_true rfl) (w_GC_latest hC (d := D + 1) (by omega) hF) (fun v9 h9 q9 => ?_)
  obtain ⟨rfl, rfl⟩ := q9
  refine ag_aloadV_n (v := .ref b) d_law_624 rfl rfl ?_
  refine ag_aloadV_n (v := .ref 0) d_law_625 rfl rfl ?_
  refine ag_iload d_law_626 rfl ?_
  refine ag_iconst d_law_628 ?_
  refine ag_iadd d_law_629 ?_
  refine lw_ld (j := 1) hL ht (by decide) d_law_630 ?_
  refine ag_callv (as := [.int (ag_xs G (5 * t + 1))]) d_law_631 ml_Lw_103 gw_1278 rfl sl_Md_latest (md_at0 hb1 S) (Nat.le_of_ble_eq_true rfl) (w_Md_latest hb1 (d := D + 1) (by omega) hM) (fun v9 h9 q9 => ?_)
  obtain ⟨rfl, rfl⟩ := q9
  refine ag_icmp_eq d_law_634 rfl (fun _ => ?_) (fun q => absurd rfl q)
  exact ag_dr (ag_d1 rfl (ag_d1 rfl (ag_d1 rfl (ag_d1 rfl (ag_d1 rfl ag_d0))))) (hK _ _ hk)
theorem pd_Lw_fact : (parseMethodDescriptor m_Lw_fact.1.desc).map (fun d => d.parameters.length) = some 4 := by decide +kernel
def kd_fact (ci : Nat) : Option Int32 := if ci = 14 then some 1 else none
theorem lw_c12 {l : Launch} {G : ag_G} {D N a b o t : Nat} {C : Nat × Nat} (hC : ag_cN G = C.1 ∧ ag_cS G = C.2) (htr : ∀ e : Env, l.admits e → e.platform.stackTraces = false) (hD : 60 ≤ D) (hL : ag_Ln G ≤ 2560) (ht : 5 * t + 5 ≤ ag_Ln G) {h : ag_H} {S : MS} (w : lw_Wf a b o h) {Z : ag_Z} {K : ag_H → MS → Prop} (hKW : ∀ h1 S1, K h1 S1 → lw_Wf a b o h1) (hK : ∀ h1 S1, K h1 S1 → ag_ev gc_P l G m_law (D + 1 + 1) Z 800 [(0, .ref 0), (1, .ref a), (2, .ref b), (3, .ref o), (4, .int (Int32.ofNat (5 * t)))] [] (md_up h1 b S1)) (q0 : lw_T (fun h => fn_GC_fact N C a (ag_xs G (5 * t + 1)) (ag_xs G (5 * t + 2)) h) (fun S => fn_Md_fact N (ag_xs G (5 * t + 1)) (ag_xs G (5 * t + 2)) S) (fun S => fn_Md_thrown N S) kd_fact a b o h S K) : ag_ev gc_P l G m_law (D + 1 + 1) Z 639 [(0, .ref 0), (1, .ref a), (2, .ref b), (3, .ref o), (4, .int (Int32.ofNat (5 * t)))] [] (md_up h b S) := by
  obtain ⟨fs, ha⟩ := lw_ata w S
  obtain ⟨y, S1, k, S2, hM, hT, hR⟩ := q0
  replace hM : fn_Md_fact N (ag_xs G (5 * t + 1)) (ag_xs G (5 * t + 2)) S = some (y, S1) := hM
  replace hT : fn_Md_thrown N S1 = some (k, S2) := hT
  rcases hR with ⟨h1, hF, rfl, w1, hk⟩ | ⟨e, h1, ci, fx, hF, hx, hk, w1, hk2⟩
  · replace hF : fn_GC_fact N C a (ag_xs G (5 * t + 1)) (ag_xs G (5 * t + 2)) (md_up h b S) = some (.inl y, md_up h1 b S) := hF
    obtain ⟨f, hf⟩ := w1.2.2
    have ho : ag_at (md_up h1 b S) (.ref o) = some (.inl (3, 1, .inr (.inl f))) := by rw [lw_ato w1.1.2.2.1 w1.1.2.2.2, hf]
    have hb1 : md_ok (ag_up h1 o (.inl (3, 1, .inr (.inl (vp_updL f 0 y.toInt64))))) b := show 2 ≤ b ∧ b + 21 < h1.1 from lw_md w1
    have ho2 : ag_at (md_up (ag_up h1 o (.inl (3, 1, .inr (.inl (vp_updL f 0 y.toInt64))))) b S2) (.ref o) = some (.inl (3, 1, .inr (.inl (vp_updL f 0 y.toInt64)))) := by
      rw [lw_ato (h := ag_up h1 o (.inl (3, 1, .inr (.inl (vp_updL f 0 y.toInt64))))) w1.1.2.2.1 w1.1.2.2.2]
      exact congrArg some (if_pos rfl)
    refine ag_aloadV_n (v := .ref a) d_law_639 rfl rfl ?_
    refine ag_aloadV_n (v := .ref 0) d_law_640 rfl rfl ?_
    refine ag_iload d_law_641 rfl ?_
    refine ag_iconst d_law_643 ?_
    refine ag_iadd d_law_644 ?_
    refine lw_ld (j := 1) hL ht (by decide) d_law_645 ?_
    refine ag_aloadV_n (v := .ref 0) d_law_646 rfl rfl ?_
    refine ag_iload d_law_647 rfl ?_
    refine ag_iconst d_law_649 ?_
    refine ag_iadd d_law_650 ?_
    refine lw_ld (j := 2) hL ht (by decide) d_law_651 ?_
    refine ag_aloadV_n (v := .ref o) d_law_652 rfl rfl ?_
    refine ag_callsW (Y := m_Lw_fact) (as := [.ref a, .int (ag_xs G (5 * t + 1)), .int (ag_xs G (5 * t + 2)), .ref o]) d_law_653 gw_913 gw_0 gw_915 ⟨by decide, by decide⟩ pd_Lw_fact (by decide) gw_914 (Nat.le_of_ble_eq_true rfl) (v_Lw_fact hC htr (d := D) (by omega) ha hF ho) (fun v9 h9 q9 => ?_)
    obtain ⟨rfl, rfl⟩ := q9
    rw [lw_upo w1.1.2.2.1]
    refine ag_istore d_law_656 (by decide) ?_
    refine ag_aloadV_n (v := .ref b) d_law_658 rfl rfl ?_
    refine ag_aloadV_n (v := .ref 0) d_law_659 rfl rfl ?_
    refine ag_iload d_law_660 rfl ?_
    refine ag_iconst d_law_662 ?_
    refine ag_iadd d_law_663 ?_
    refine lw_ld (j := 1) hL ht (by decide) d_law_664 ?_
    refine ag_aloadV_n (v := .ref 0) d_law_665 rfl rfl ?_
    refine ag_iload d_law_666 rfl ?_
    refine ag_iconst d_law_668 ?_
    refine ag_iadd d_law_669 ?_
    refine lw_ld (j := 2) hL ht (by decide) d_law_670 ?_
    refine ag_callv (as := [.int (ag_xs G (5 * t + 1)), .int (ag_xs G (5 * t + 2))]) d_law_671 ml_Lw_106 gw_1282 rfl sl_Md_fact (md_at0 hb1 S) (Nat.le_of_ble_eq_true rfl) (w_Md_fact hb1 (d := D + 1) (by omega) hM) (fun v9 h9 q9 => ?_)
    obtain ⟨rfl, rfl⟩ := q9
    refine ag_istore d_law_674 (by decide) ?_
    refine ag_aloadV_n (v := .ref b) d_law_676 rfl rfl ?_
    refine ag_callv (as := []) d_law_677 ml_Lw_67 gw_1082 rfl sl_Md_thrown (md_at0 hb1 S1) (Nat.le_of_ble_eq_true rfl) (w_Md_thrown hb1 (d := D + 1) (by omega) hT) (fun v9 h9 q9 => ?_)
    obtain ⟨rfl, rfl⟩ := q9
    refine ag_iload d_law_680 rfl ?_
    refine ag_icmp_eq d_law_682 rfl (fun _ => ?_) (fun q => absurd rfl q)
    refine ag_iload d_law_687 rfl ?_
    refine ag_if_ne d_law_689 rfl (fun q => absurd rfl q) (fun _ => ?_)
    refine ag_aloadV_n (v := .ref o) d_law_692 rfl rfl ?_
    refine ag_iconst d_law_693 ?_
    refine ag_lald (t := 3) d_law_694 rfl ho2 (md_in_ok (by decide)) ?_
    refine ag_iload d_law_695 rfl ?_
    refine ag_i2l d_law_697 ?_
    refine ag_lcmp d_law_698 ?_
    refine ag_if_eq d_law_699 rfl (fun _ => ?_) (fun q => absurd (lw_cmp0 _ _) q)
    refine ag_goto d_law_704 rfl ?_
    exact ag_dr (ag_d1 rfl (ag_d1 rfl (ag_d1 rfl (ag_d1 rfl (ag_d1 rfl ag_d0))))) (hK _ _ (hk f hf))
  · have hb1 : md_ok h1 b := lw_md w1
    replace hF : fn_GC_fact N C a (ag_xs G (5 * t + 1)) (ag_xs G (5 * t + 2)) (md_up h b S) = some (.inr e, md_up h1 b S) := hF
    by_cases e9 : ci = 14
    · subst e9
      obtain rfl : (1 : Int32) = k := Option.some.inj hk
      refine ag_aloadV_n (v := .ref a) d_law_639 rfl rfl ?_
      refine ag_aloadV_n (v := .ref 0) d_law_640 rfl rfl ?_
      refine ag_iload d_law_641 rfl ?_
      refine ag_iconst d_law_643 ?_
      refine ag_iadd d_law_644 ?_
      refine lw_ld (j := 1) hL ht (by decide) d_law_645 ?_
      refine ag_aloadV_n (v := .ref 0) d_law_646 rfl rfl ?_
      refine ag_iload d_law_647 rfl ?_
      refine ag_iconst d_law_649 ?_
      refine ag_iadd d_law_650 ?_
      refine lw_ld (j := 2) hL ht (by decide) d_law_651 ?_
      refine ag_aloadV_n (v := .ref o) d_law_652 rfl rfl ?_
      refine ag_callsW (Y := m_Lw_fact) (as := [.ref a, .int (ag_xs G (5 * t + 1)), .int (ag_xs G (5 * t + 2)), .ref o]) d_law_653 gw_913 gw_0 gw_915 ⟨by decide, by decide⟩ pd_Lw_fact (by decide) gw_914 (Nat.le_of_ble_eq_true rfl) (u_Lw_fact_14 hC htr (d := D) (by omega) ha hF hx) (fun v9 h9 q9 => ?_)
      obtain ⟨rfl, rfl⟩ := q9
      refine ag_istore d_law_656 (by decide) ?_
      refine ag_aloadV_n (v := .ref b) d_law_658 rfl rfl ?_
      refine ag_aloadV_n (v := .ref 0) d_law_659 rfl rfl ?_
      refine ag_iload d_law_660 rfl ?_
      refine ag_iconst d_law_662 ?_
      refine ag_iadd d_law_663 ?_
      refine lw_ld (j := 1) hL ht (by decide) d_law_664 ?_
      refine ag_aloadV_n (v := .ref 0) d_law_665 rfl rfl ?_
      refine ag_iload d_law_666 rfl ?_
      refine ag_iconst d_law_668 ?_
      refine ag_iadd d_law_669 ?_
      refine lw_ld (j := 2) hL ht (by decide) d_law_670 ?_
      refine ag_callv (as := [.int (ag_xs G (5 * t + 1)), .int (ag_xs G (5 * t + 2))]) d_law_671 ml_Lw_106 gw_1282 rfl sl_Md_fact (md_at0 hb1 S) (Nat.le_of_ble_eq_true rfl) (w_Md_fact hb1 (d := D + 1) (by omega) hM) (fun v9 h9 q9 => ?_)
      obtain ⟨rfl, rfl⟩ := q9
      refine ag_istore d_law_674 (by decide) ?_
      refine ag_aloadV_n (v := .ref b) d_law_676 rfl rfl ?_
      refine ag_callv (as := []) d_law_677 ml_Lw_67 gw_1082 rfl sl_Md_thrown (md_at0 hb1 S1) (Nat.le_of_ble_eq_true rfl) (w_Md_thrown hb1 (d := D + 1) (by omega) hT) (fun v9 h9 q9 => ?_)
      obtain ⟨rfl, rfl⟩ := q9
      refine ag_iload d_law_680 rfl ?_
      refine ag_icmp_eq d_law_682 rfl (fun _ => ?_) (fun q => absurd rfl q)
      refine ag_iload d_law_687 rfl ?_
      refine ag_if_ne d_law_689 rfl (fun _ => ?_) (fun q => absurd q (by decide))
      refine ag_goto d_law_704 rfl ?_
      exact ag_dr (ag_d1 rfl (ag_d1 rfl (ag_d1 rfl (ag_d1 rfl (ag_d1 rfl ag_d0))))) (hK _ _ hk2)
    · have n14 := e9
      rw [kd_fact, if_neg n14] at hk
      cases hk
theorem pd_Lw_token : (parseMethodDescriptor m_Lw_token.1.desc).map (fun d => d.parameters.length) = some 4 := by decide +kernel
def kd_token (ci : Nat) : Option Int32 := if ci = 14 then some 1 else none
theorem lw_c13 {l : Launch} {G : ag_G} {D N a b o t : Nat} {C : Nat × Nat} (hC : ag_cN G = C.1 ∧ ag_cS G = C.2) (htr : ∀ e : Env, l.admits e → e.platform.stackTraces = false) (hD : 60 ≤ D) (hL : ag_Ln G ≤ 2560) (ht : 5 * t + 5 ≤ ag_Ln G) {h : ag_H} {S : MS} (w : lw_Wf a b o h) {Z : ag_Z} {K : ag_H → MS → Prop} (hKW : ∀ h1 S1, K h1 S1 → lw_Wf a b o h1) (hK : ∀ h1 S1, K h1 S1 → ag_ev gc_P l G m_law (D + 1 + 1) Z 800 [(0, .ref 0), (1, .ref a), (2, .ref b), (3, .ref o), (4, .int (Int32.ofNat (5 * t)))] [] (md_up h1 b S1)) (q0 : lw_T (fun h => fn_GC_token N C a (ag_xs G (5 * t + 1)) (ag_xs G (5 * t + 2)) h) (fun S => fn_Md_token N (ag_xs G (5 * t + 1)) (ag_xs G (5 * t + 2)) S) (fun S => fn_Md_thrown N S) kd_token a b o h S K) : ag_ev gc_P l G m_law (D + 1 + 1) Z 707 [(0, .ref 0), (1, .ref a), (2, .ref b), (3, .ref o), (4, .int (Int32.ofNat (5 * t)))] [] (md_up h b S) := by
  obtain ⟨fs, ha⟩ := lw_ata w S
  obtain ⟨y, S1, k, S2, hM, hT, hR⟩ := q0
  replace hM : fn_Md_token N (ag_xs G (5 * t + 1)) (ag_xs G (5 * t + 2)) S = some (y, S1) := hM
  replace hT : fn_Md_thrown N S1 = some (k, S2) := hT
  rcases hR with ⟨h1, hF, rfl, w1, hk⟩ | ⟨e, h1, ci, fx, hF, hx, hk, w1, hk2⟩
  · replace hF : fn_GC_token N C a (ag_xs G (5 * t + 1)) (ag_xs G (5 * t + 2)) (md_up h b S) = some (.inl y, md_up h1 b S) := hF
    obtain ⟨f, hf⟩ := w1.2.2
    have ho : ag_at (md_up h1 b S) (.ref o) = some (.inl (3, 1, .inr (.inl f))) := by rw [lw_ato w1.1.2.2.1 w1.1.2.2.2, hf]
    have hb1 : md_ok (ag_up h1 o (.inl (3, 1, .inr (.inl (vp_updL f 0 y.toInt64))))) b := show 2 ≤ b ∧ b + 21 < h1.1 from lw_md w1
    have ho2 : ag_at (md_up (ag_up h1 o (.inl (3, 1, .inr (.inl (vp_updL f 0 y.toInt64))))) b S2) (.ref o) = some (.inl (3, 1, .inr (.inl (vp_updL f 0 y.toInt64)))) := by
      rw [lw_ato (h := ag_up h1 o (.inl (3, 1, .inr (.inl (vp_updL f 0 y.toInt64))))) w1.1.2.2.1 w1.1.2.2.2]
      exact congrArg some (if_pos rfl)
    refine ag_aloadV_n (v := .ref a) d_law_707 rfl rfl ?_
    refine ag_aloadV_n (v := .ref 0) d_law_708 rfl rfl ?_
    refine ag_iload d_law_709 rfl ?_
    refine ag_iconst d_law_711 ?_
    refine ag_iadd d_law_712 ?_
    refine lw_ld (j := 1) hL ht (by decide) d_law_713 ?_
    refine ag_aloadV_n (v := .ref 0) d_law_714 rfl rfl ?_
    refine ag_iload d_law_715 rfl ?_
    refine ag_iconst d_law_717 ?_
    refine ag_iadd d_law_718 ?_
    refine lw_ld (j := 2) hL ht (by decide) d_law_719 ?_
    refine ag_aloadV_n (v := .ref o) d_law_720 rfl rfl ?_
    refine ag_callsW (Y := m_Lw_token) (as := [.ref a, .int (ag_xs G (5 * t + 1)), .int (ag_xs G (5 * t + 2)), .ref o]) d_law_721 gw_920 gw_0 gw_922 ⟨by decide, by decide⟩ pd_Lw_token (by decide) gw_921 (Nat.le_of_ble_eq_true rfl) (v_Lw_token hC htr (d := D) (by omega) ha hF ho) (fun v9 h9 q9 => ?_)
    obtain ⟨rfl, rfl⟩ := q9
    rw [lw_upo w1.1.2.2.1]
    refine ag_istore d_law_724 (by decide) ?_
    refine ag_aloadV_n (v := .ref b) d_law_726 rfl rfl ?_
    refine ag_aloadV_n (v := .ref 0) d_law_727 rfl rfl ?_
    refine ag_iload d_law_728 rfl ?_
    refine ag_iconst d_law_730 ?_
    refine ag_iadd d_law_731 ?_
    refine lw_ld (j := 1) hL ht (by decide) d_law_732 ?_
    refine ag_aloadV_n (v := .ref 0) d_law_733 rfl rfl ?_
    refine ag_iload d_law_734 rfl ?_
    refine ag_iconst d_law_736 ?_
    refine ag_iadd d_law_737 ?_
    refine lw_ld (j := 2) hL ht (by decide) d_law_738 ?_
    refine ag_callv (as := [.int (ag_xs G (5 * t + 1)), .int (ag_xs G (5 * t + 2))]) d_law_739 ml_Lw_109 gw_1290 rfl sl_Md_token (md_at0 hb1 S) (Nat.le_of_ble_eq_true rfl) (w_Md_token hb1 (d := D + 1) (by omega) hM) (fun v9 h9 q9 => ?_)
    obtain ⟨rfl, rfl⟩ := q9
    refine ag_istore d_law_742 (by decide) ?_
    refine ag_aloadV_n (v := .ref b) d_law_744 rfl rfl ?_
    refine ag_callv (as := []) d_law_745 ml_Lw_67 gw_1082 rfl sl_Md_thrown (md_at0 hb1 S1) (Nat.le_of_ble_eq_true rfl) (w_Md_thrown hb1 (d := D + 1) (by omega) hT) (fun v9 h9 q9 => ?_)
    obtain ⟨rfl, rfl⟩ := q9
    refine ag_iload d_law_748 rfl ?_
    refine ag_icmp_eq d_law_750 rfl (fun _ => ?_) (fun q => absurd rfl q)
    refine ag_iload d_law_755 rfl ?_
    refine ag_if_ne d_law_757 rfl (fun q => absurd rfl q) (fun _ => ?_)
    refine ag_aloadV_n (v := .ref o) d_law_760 rfl rfl ?_
    refine ag_iconst d_law_761 ?_
    refine ag_lald (t := 3) d_law_762 rfl ho2 (md_in_ok (by decide)) ?_
    refine ag_iload d_law_763 rfl ?_
    refine ag_i2l d_law_765 ?_
    refine ag_lcmp d_law_766 ?_
    refine ag_if_eq d_law_767 rfl (fun _ => ?_) (fun q => absurd (lw_cmp0 _ _) q)
    refine ag_goto d_law_772 rfl ?_
    exact ag_dr (ag_d1 rfl (ag_d1 rfl (ag_d1 rfl (ag_d1 rfl (ag_d1 rfl ag_d0))))) (hK _ _ (hk f hf))
  · have hb1 : md_ok h1 b := lw_md w1
    replace hF : fn_GC_token N C a (ag_xs G (5 * t + 1)) (ag_xs G (5 * t + 2)) (md_up h b S) = some (.inr e, md_up h1 b S) := hF
    by_cases e9 : ci = 14
    · subst e9
      obtain rfl : (1 : Int32) = k := Option.some.inj hk
      refine ag_aloadV_n (v := .ref a) d_law_707 rfl rfl ?_
      refine ag_aloadV_n (v := .ref 0) d_law_708 rfl rfl ?_
      refine ag_iload d_law_709 rfl ?_
      refine ag_iconst d_law_711 ?_
      refine ag_iadd d_law_712 ?_
      refine lw_ld (j := 1) hL ht (by decide) d_law_713 ?_
      refine ag_aloadV_n (v := .ref 0) d_law_714 rfl rfl ?_
      refine ag_iload d_law_715 rfl ?_
      refine ag_iconst d_law_717 ?_
      refine ag_iadd d_law_718 ?_
      refine lw_ld (j := 2) hL ht (by decide) d_law_719 ?_
      refine ag_aloadV_n (v := .ref o) d_law_720 rfl rfl ?_
      refine ag_callsW (Y := m_Lw_token) (as := [.ref a, .int (ag_xs G (5 * t + 1)), .int (ag_xs G (5 * t + 2)), .ref o]) d_law_721 gw_920 gw_0 gw_922 ⟨by decide, by decide⟩ pd_Lw_token (by decide) gw_921 (Nat.le_of_ble_eq_true rfl) (u_Lw_token_14 hC htr (d := D) (by omega) ha hF hx) (fun v9 h9 q9 => ?_)
      obtain ⟨rfl, rfl⟩ := q9
      refine ag_istore d_law_724 (by decide) ?_
      refine ag_aloadV_n (v := .ref b) d_law_726 rfl rfl ?_
      refine ag_aloadV_n (v := .ref 0) d_law_727 rfl rfl ?_
      refine ag_iload d_law_728 rfl ?_
      refine ag_iconst d_law_730 ?_
      refine ag_iadd d_law_731 ?_
      refine lw_ld (j := 1) hL ht (by decide) d_law_732 ?_
      refine ag_aloadV_n (v := .ref 0) d_law_733 rfl rfl ?_
      refine ag_iload d_law_734 rfl ?_
      refine ag_iconst d_law_736 ?_
      refine ag_iadd d_law_737 ?_
      refine lw_ld (j := 2) hL ht (by decide) d_law_738 ?_
      refine ag_callv (as := [.int (ag_xs G (5 * t + 1)), .int (ag_xs G (5 * t + 2))]) d_law_739 ml_Lw_109 gw_1290 rfl sl_Md_token (md_at0 hb1 S) (Nat.le_of_ble_eq_true rfl) (w_Md_token hb1 (d := D + 1) (by omega) hM) (fun v9 h9 q9 => ?_)
      obtain ⟨rfl, rfl⟩ := q9
      refine ag_istore d_law_742 (by decide) ?_
      refine ag_aloadV_n (v := .ref b) d_law_744 rfl rfl ?_
      refine ag_callv (as := []) d_law_745 ml_Lw_67 gw_1082 rfl sl_Md_thrown (md_at0 hb1 S1) (Nat.le_of_ble_eq_true rfl) (w_Md_thrown hb1 (d := D + 1) (by omega) hT) (fun v9 h9 q9 => ?_)
      obtain ⟨rfl, rfl⟩ := q9
      refine ag_iload d_law_748 rfl ?_
      refine ag_icmp_eq d_law_750 rfl (fun _ => ?_) (fun q => absurd rfl q)
      refine ag_iload d_law_755 rfl ?_
      refine ag_if_ne d_law_757 rfl (fun _ => ?_) (fun q => absurd q (by decide))
      refine ag_goto d_law_772 rfl ?_
      exact ag_dr (ag_d1 rfl (ag_d1 rfl (ag_d1 rfl (ag_d1 rfl (ag_d1 rfl ag_d0))))) (hK _ _ hk2)
    · have n14 := e9
      rw [kd_token, if_neg n14] at hk
      cases hk
theorem lw_c14 {l : Launch} {G : ag_G} {D N a b o t : Nat} {C : Nat × Nat} (hC : ag_cN G = C.1 ∧ ag_cS G = C.2) (htr : ∀ e : Env, l.admits e → e.platform.stackTraces = false) (hD : 60 ≤ D) (hL : ag_Ln G ≤ 2560) (ht : 5 * t + 5 ≤ ag_Ln G) {h : ag_H} {S : MS} (w : lw_Wf a b o h) {Z : ag_Z} {K : ag_H → MS → Prop} (hKW : ∀ h1 S1, K h1 S1 → lw_Wf a b o h1) (hK : ∀ h1 S1, K h1 S1 → ag_ev gc_P l G m_law (D + 1 + 1) Z 800 [(0, .ref 0), (1, .ref a), (2, .ref b), (3, .ref o), (4, .int (Int32.ofNat (5 * t)))] [] (md_up h1 b S1)) (q0 : lw_D (fun h => fn_GC_count N C a (ag_xs G (5 * t + 1)) h) (fun S => fn_Md_count N (ag_xs G (5 * t + 1)) S) b h S K) : ag_ev gc_P l G m_law (D + 1 + 1) Z 775 [(0, .ref 0), (1, .ref a), (2, .ref b), (3, .ref o), (4, .int (Int32.ofNat (5 * t)))] [] (md_up h b S) := by
  obtain ⟨fs, ha⟩ := lw_ata w S
  obtain ⟨x, h1, S1, hF, hM, hk⟩ := q0
  replace hF : fn_GC_count N C a (ag_xs G (5 * t + 1)) (md_up h b S) = some (x, md_up h1 b S) := hF
  replace hM : fn_Md_count N (ag_xs G (5 * t + 1)) S = some (x, S1) := hM
  have hb1 : md_ok h1 b := lw_md (hKW _ _ hk)
  refine ag_aloadV_n (v := .ref a) d_law_775 rfl rfl ?_
  refine ag_aloadV_n (v := .ref 0) d_law_776 rfl rfl ?_
  refine ag_iload d_law_777 rfl ?_
  refine ag_iconst d_law_779 ?_
  refine ag_iadd d_law_780 ?_
  refine lw_ld (j := 1) hL ht (by decide) d_law_781 ?_
  refine ag_callv (as := [.int (ag_xs G (5 * t + 1))]) d_law_782 ml_Lw_110 gw_265 rfl sl_GC_count ha (Nat.le_of_ble_eq_true rfl) (w_GC_count hC (d := D + 1) (by omega) hF) (fun v9 h9 q9 => ?_)
  obtain ⟨rfl, rfl⟩ := q9
  refine ag_aloadV_n (v := .ref b) d_law_785 rfl rfl ?_
  refine ag_aloadV_n (v := .ref 0) d_law_786 rfl rfl ?_
  refine ag_iload d_law_787 rfl ?_
  refine ag_iconst d_law_789 ?_
  refine ag_iadd d_law_790 ?_
  refine lw_ld (j := 1) hL ht (by decide) d_law_791 ?_
  refine ag_callv (as := [.int (ag_xs G (5 * t + 1))]) d_law_792 ml_Lw_113 gw_1294 rfl sl_Md_count (md_at0 hb1 S) (Nat.le_of_ble_eq_true rfl) (w_Md_count hb1 (d := D + 1) (by omega) hM) (fun v9 h9 q9 => ?_)
  obtain ⟨rfl, rfl⟩ := q9
  refine ag_icmp_eq d_law_795 rfl (fun _ => ?_) (fun q => absurd rfl q)
  exact ag_dr (ag_d1 rfl (ag_d1 rfl (ag_d1 rfl (ag_d1 rfl (ag_d1 rfl ag_d0))))) (hK _ _ hk)
def lw_step (N : Nat) (C : Nat × Nat) (a b o : Nat) (G : ag_G) (t : Nat) (h : ag_H) (S : MS) (K : ag_H → MS → Prop) : Prop :=
  if (ag_xs G (5 * t)) &&& (Int8.ofInt (15)).toInt32 = (0 : Int32) then lw_D (fun h => fn_GC_type N C a ((((ag_xs G (5 * t + 1))).toUInt32 % 65536).toInt32) h) (fun S => fn_Md_type N ((((ag_xs G (5 * t + 1))).toUInt32 % 65536).toInt32) S) b h S K else
  if (ag_xs G (5 * t)) &&& (Int8.ofInt (15)).toInt32 = (1 : Int32) then lw_V (fun h => fn_GC_wipe N C a  h) (fun S => fn_Md_wipe N  S) b h S K else
  if (ag_xs G (5 * t)) &&& (Int8.ofInt (15)).toInt32 = (2 : Int32) then lw_T (fun h => fn_GC_clause N C a  h) (fun S => fn_Md_clause N  S) (fun S => fn_Md_thrown N S) kd_clause a b o h S K else
  if (ag_xs G (5 * t)) &&& (Int8.ofInt (15)).toInt32 = (3 : Int32) then lw_T (fun h => fn_GC_desk N C a  h) (fun S => fn_Md_desk N  S) (fun S => fn_Md_thrown N S) kd_desk a b o h S K else
  if (ag_xs G (5 * t)) &&& (Int8.ofInt (15)).toInt32 = (4 : Int32) then lw_V (fun h => fn_GC_clear N C a  h) (fun S => fn_Md_clear N  S) b h S K else
  if (ag_xs G (5 * t)) &&& (Int8.ofInt (15)).toInt32 = (5 : Int32) then lw_T (fun h => fn_GC_issue N C a (ag_xs G (5 * t + 1)) h) (fun S => fn_Md_issue N (ag_xs G (5 * t + 1)) S) (fun S => fn_Md_thrown N S) kd_issue a b o h S K else
  if (ag_xs G (5 * t)) &&& (Int8.ofInt (15)).toInt32 = (6 : Int32) then lw_T (fun h => fn_GC_append N C a (ag_xs G (5 * t + 1)) h) (fun S => fn_Md_append N (ag_xs G (5 * t + 1)) S) (fun S => fn_Md_thrown N S) kd_append a b o h S K else
  if (ag_xs G (5 * t)) &&& (Int8.ofInt (15)).toInt32 = (7 : Int32) then lw_T (fun h => fn_GC_seal N C a (ag_xs G (5 * t + 1)) h) (fun S => fn_Md_seal N (ag_xs G (5 * t + 1)) S) (fun S => fn_Md_thrown N S) kd_seal a b o h S K else
  if (ag_xs G (5 * t)) &&& (Int8.ofInt (15)).toInt32 = (8 : Int32) then lw_T (fun h => fn_GC_tamper N C a (ag_xs G (5 * t + 1)) (ag_xs G (5 * t + 2)) (ag_xs G (5 * t + 3)) (ag_xs G (5 * t + 4)) h) (fun S => fn_Md_tamper N (ag_xs G (5 * t + 1)) (ag_xs G (5 * t + 2)) (ag_xs G (5 * t + 3)) (ag_xs G (5 * t + 4)) S) (fun S => fn_Md_thrown N S) kd_tamper a b o h S K else
  if (ag_xs G (5 * t)) &&& (Int8.ofInt (15)).toInt32 = (9 : Int32) then lw_D (fun h => fn_GC_limits N C a (ag_xs G (5 * t + 1)) (ag_xs G (5 * t + 2)) h) (fun S => fn_Md_limits N (ag_xs G (5 * t + 1)) (ag_xs G (5 * t + 2)) S) b h S K else
  if (ag_xs G (5 * t)) &&& (Int8.ofInt (15)).toInt32 = (10 : Int32) then lw_T (fun h => fn_GC_authorize N C a (ag_xs G (5 * t + 1)) (ag_xs G (5 * t + 2)) h) (fun S => fn_Md_authorize N (ag_xs G (5 * t + 1)) (ag_xs G (5 * t + 2)) S) (fun S => fn_Md_thrown N S) kd_authorize a b o h S K else
  if (ag_xs G (5 * t)) &&& (Int8.ofInt (15)).toInt32 = (11 : Int32) then lw_D (fun h => fn_GC_latest N C a (ag_xs G (5 * t + 1)) h) (fun S => fn_Md_latest N (ag_xs G (5 * t + 1)) S) b h S K else
  if (ag_xs G (5 * t)) &&& (Int8.ofInt (15)).toInt32 = (12 : Int32) then lw_T (fun h => fn_GC_fact N C a (ag_xs G (5 * t + 1)) (ag_xs G (5 * t + 2)) h) (fun S => fn_Md_fact N (ag_xs G (5 * t + 1)) (ag_xs G (5 * t + 2)) S) (fun S => fn_Md_thrown N S) kd_fact a b o h S K else
  if (ag_xs G (5 * t)) &&& (Int8.ofInt (15)).toInt32 = (13 : Int32) then lw_T (fun h => fn_GC_token N C a (ag_xs G (5 * t + 1)) (ag_xs G (5 * t + 2)) h) (fun S => fn_Md_token N (ag_xs G (5 * t + 1)) (ag_xs G (5 * t + 2)) S) (fun S => fn_Md_thrown N S) kd_token a b o h S K else
  if (ag_xs G (5 * t)) &&& (Int8.ofInt (15)).toInt32 = (14 : Int32) then lw_D (fun h => fn_GC_count N C a (ag_xs G (5 * t + 1)) h) (fun S => fn_Md_count N (ag_xs G (5 * t + 1)) S) b h S K else
  K h S
theorem lw_once {l : Launch} {G : ag_G} {D N a b o t : Nat} {C : Nat × Nat} (hC : ag_cN G = C.1 ∧ ag_cS G = C.2) (htr : ∀ e : Env, l.admits e → e.platform.stackTraces = false) (hD : 60 ≤ D) (hL : ag_Ln G ≤ 2560) (ht : 5 * t + 5 ≤ ag_Ln G) {h : ag_H} {S : MS} (w : lw_Wf a b o h) {Z : ag_Z} {K : ag_H → MS → Prop} (hKW : ∀ h1 S1, K h1 S1 → lw_Wf a b o h1) (hK : ∀ h1 S1, K h1 S1 → ag_ev gc_P l G m_law (D + 1 + 1) Z 800 [(0, .ref 0), (1, .ref a), (2, .ref b), (3, .ref o), (4, .int (Int32.ofNat (5 * t)))] [] (md_up h1 b S1)) (qz : lw_step N C a b o G t h S K) : ag_ev gc_P l G m_law (D + 1 + 1) Z 32 [(0, .ref 0), (1, .ref a), (2, .ref b), (3, .ref o), (4, .int (Int32.ofNat (5 * t)))] [] (md_up h b S) := by
  refine ag_aloadV_n (v := .ref 0) d_law_32 rfl rfl ?_
  refine ag_iload d_law_33 rfl ?_
  refine lw_ld0 hL ht d_law_35 ?_
  refine ag_bipush d_law_36 ?_
  refine ag_iand d_law_38 ?_
  unfold lw_step at qz
  by_cases q0 : (ag_xs G (5 * t)) &&& (Int8.ofInt (15)).toInt32 = (0 : Int32)
  · rw [if_pos q0] at qz
    refine ag_tabIn d_law_39 (by rw [q0]; decide) (by rw [q0]; decide) (by rw [q0]; rfl) rfl ?_
    exact lw_c0 hC htr hD hL ht w hKW hK qz
  rw [if_neg q0] at qz
  by_cases q1 : (ag_xs G (5 * t)) &&& (Int8.ofInt (15)).toInt32 = (1 : Int32)
  · rw [if_pos q1] at qz
    refine ag_tabIn d_law_39 (by rw [q1]; decide) (by rw [q1]; decide) (by rw [q1]; rfl) rfl ?_
    exact lw_c1 hC htr hD hL ht w hKW hK qz
  rw [if_neg q1] at qz
  by_cases q2 : (ag_xs G (5 * t)) &&& (Int8.ofInt (15)).toInt32 = (2 : Int32)
  · rw [if_pos q2] at qz
    refine ag_tabIn d_law_39 (by rw [q2]; decide) (by rw [q2]; decide) (by rw [q2]; rfl) rfl ?_
    exact lw_c2 hC htr hD hL ht w hKW hK qz
  rw [if_neg q2] at qz
  by_cases q3 : (ag_xs G (5 * t)) &&& (Int8.ofInt (15)).toInt32 = (3 : Int32)
  · rw [if_pos q3] at qz
    refine ag_tabIn d_law_39 (by rw [q3]; decide) (by rw [q3]; decide) (by rw [q3]; rfl) rfl ?_
    exact lw_c3 hC htr hD hL ht w hKW hK qz
  rw [if_neg q3] at qz
  by_cases q4 : (ag_xs G (5 * t)) &&& (Int8.ofInt (15)).toInt32 = (4 : Int32)
  · rw [if_pos q4] at qz
    refine ag_tabIn d_law_39 (by rw [q4]; decide) (by rw [q4]; decide) (by rw [q4]; rfl) rfl ?_
    exact lw_c4 hC htr hD hL ht w hKW hK qz
  rw [if_neg q4] at qz
  by_cases q5 : (ag_xs G (5 * t)) &&& (Int8.ofInt (15)).toInt32 = (5 : Int32)
  · rw [if_pos q5] at qz
    refine ag_tabIn d_law_39 (by rw [q5]; decide) (by rw [q5]; decide) (by rw [q5]; rfl) rfl ?_
    exact lw_c5 hC htr hD hL ht w hKW hK qz
  rw [if_neg q5] at qz
  by_cases q6 : (ag_xs G (5 * t)) &&& (Int8.ofInt (15)).toInt32 = (6 : Int32)
  · rw [if_pos q6] at qz
    refine ag_tabIn d_law_39 (by rw [q6]; decide) (by rw [q6]; decide) (by rw [q6]; rfl) rfl ?_
    exact lw_c6 hC htr hD hL ht w hKW hK qz
  rw [if_neg q6] at qz
  by_cases q7 : (ag_xs G (5 * t)) &&& (Int8.ofInt (15)).toInt32 = (7 : Int32)
  · rw [if_pos q7] at qz
    refine ag_tabIn d_law_39 (by rw [q7]; decide) (by rw [q7]; decide) (by rw [q7]; rfl) rfl ?_
    exact lw_c7 hC htr hD hL ht w hKW hK qz
  rw [if_neg q7] at qz
  by_cases q8 : (ag_xs G (5 * t)) &&& (Int8.ofInt (15)).toInt32 = (8 : Int32)
  · rw [if_pos q8] at qz
    refine ag_tabIn d_law_39 (by rw [q8]; decide) (by rw [q8]; decide) (by rw [q8]; rfl) rfl ?_
    exact lw_c8 hC htr hD hL ht w hKW hK qz
  rw [if_neg q8] at qz
  by_cases q9 : (ag_xs G (5 * t)) &&& (Int8.ofInt (15)).toInt32 = (9 : Int32)
  · rw [if_pos q9] at qz
    refine ag_tabIn d_law_39 (by rw [q9]; decide) (by rw [q9]; decide) (by rw [q9]; rfl) rfl ?_
    exact lw_c9 hC htr hD hL ht w hKW hK qz
  rw [if_neg q9] at qz
  by_cases q10 : (ag_xs G (5 * t)) &&& (Int8.ofInt (15)).toInt32 = (10 : Int32)
  · rw [if_pos q10] at qz
    refine ag_tabIn d_law_39 (by rw [q10]; decide) (by rw [q10]; decide) (by rw [q10]; rfl) rfl ?_
    exact lw_c10 hC htr hD hL ht w hKW hK qz
  rw [if_neg q10] at qz
  by_cases q11 : (ag_xs G (5 * t)) &&& (Int8.ofInt (15)).toInt32 = (11 : Int32)
  · rw [if_pos q11] at qz
    refine ag_tabIn d_law_39 (by rw [q11]; decide) (by rw [q11]; decide) (by rw [q11]; rfl) rfl ?_
    exact lw_c11 hC htr hD hL ht w hKW hK qz
  rw [if_neg q11] at qz
  by_cases q12 : (ag_xs G (5 * t)) &&& (Int8.ofInt (15)).toInt32 = (12 : Int32)
  · rw [if_pos q12] at qz
    refine ag_tabIn d_law_39 (by rw [q12]; decide) (by rw [q12]; decide) (by rw [q12]; rfl) rfl ?_
    exact lw_c12 hC htr hD hL ht w hKW hK qz
  rw [if_neg q12] at qz
  by_cases q13 : (ag_xs G (5 * t)) &&& (Int8.ofInt (15)).toInt32 = (13 : Int32)
  · rw [if_pos q13] at qz
    refine ag_tabIn d_law_39 (by rw [q13]; decide) (by rw [q13]; decide) (by rw [q13]; rfl) rfl ?_
    exact lw_c13 hC htr hD hL ht w hKW hK qz
  rw [if_neg q13] at qz
  by_cases q14 : (ag_xs G (5 * t)) &&& (Int8.ofInt (15)).toInt32 = (14 : Int32)
  · rw [if_pos q14] at qz
    refine ag_tabIn d_law_39 (by rw [q14]; decide) (by rw [q14]; decide) (by rw [q14]; rfl) rfl ?_
    exact lw_c14 hC htr hD hL ht w hKW hK qz
  rw [if_neg q14] at qz
  refine ag_tabOut d_law_39 (by have z0 : ((ag_xs G (5 * t)) &&& (Int8.ofInt (15)).toInt32).toInt ≠ 0 := ag_ne q0; have z1 : ((ag_xs G (5 * t)) &&& (Int8.ofInt (15)).toInt32).toInt ≠ 1 := ag_ne q1; have z2 : ((ag_xs G (5 * t)) &&& (Int8.ofInt (15)).toInt32).toInt ≠ 2 := ag_ne q2; have z3 : ((ag_xs G (5 * t)) &&& (Int8.ofInt (15)).toInt32).toInt ≠ 3 := ag_ne q3; have z4 : ((ag_xs G (5 * t)) &&& (Int8.ofInt (15)).toInt32).toInt ≠ 4 := ag_ne q4; have z5 : ((ag_xs G (5 * t)) &&& (Int8.ofInt (15)).toInt32).toInt ≠ 5 := ag_ne q5; have z6 : ((ag_xs G (5 * t)) &&& (Int8.ofInt (15)).toInt32).toInt ≠ 6 := ag_ne q6; have z7 : ((ag_xs G (5 * t)) &&& (Int8.ofInt (15)).toInt32).toInt ≠ 7 := ag_ne q7; have z8 : ((ag_xs G (5 * t)) &&& (Int8.ofInt (15)).toInt32).toInt ≠ 8 := ag_ne q8; have z9 : ((ag_xs G (5 * t)) &&& (Int8.ofInt (15)).toInt32).toInt ≠ 9 := ag_ne q9; have z10 : ((ag_xs G (5 * t)) &&& (Int8.ofInt (15)).toInt32).toInt ≠ 10 := ag_ne q10; have z11 : ((ag_xs G (5 * t)) &&& (Int8.ofInt (15)).toInt32).toInt ≠ 11 := ag_ne q11; have z12 : ((ag_xs G (5 * t)) &&& (Int8.ofInt (15)).toInt32).toInt ≠ 12 := ag_ne q12; have z13 : ((ag_xs G (5 * t)) &&& (Int8.ofInt (15)).toInt32).toInt ≠ 13 := ag_ne q13; have z14 : ((ag_xs G (5 * t)) &&& (Int8.ofInt (15)).toInt32).toInt ≠ 14 := ag_ne q14; omega) rfl ?_
  exact hK _ _ qz
theorem lw_sub {L t : Nat} (hL : L ≤ 2560) (ht : t ≤ 2560) (q : ¬ (Int32.ofNat L - Int32.ofInt 5) < Int32.ofNat (5 * t)) : 5 * t + 5 ≤ L := by
  have h1 : ¬ (Int32.ofNat L - Int32.ofInt 5).toInt < (Int32.ofNat (5 * t)).toInt := fun r => q (Int32.lt_iff_toInt_lt.mpr r)
  rw [Int32.toInt_sub, Int32.toInt_ofNat_of_lt (by simp; omega), Int32.toInt_ofNat_of_lt (by simp; omega)] at h1
  have h5 : (Int32.ofInt 5).toInt = 5 := by decide
  rw [h5, Int.bmod_def] at h1
  split at h1 <;> omega
theorem lw_loop {l : Launch} {G : ag_G} {D N a b o : Nat} {C : Nat × Nat} (hC : ag_cN G = C.1 ∧ ag_cS G = C.2) (htr : ∀ e : Env, l.admits e → e.platform.stackTraces = false) (hD : 60 ≤ D) (hL : ag_Ln G ≤ 2560) (I : Nat → ag_H → MS → Prop) (hI : ∀ t h S, I t h S → lw_Wf a b o h)
    (hs : ∀ t h S, 5 * t + 5 ≤ ag_Ln G → I t h S → lw_step N C a b o G t h S (I (t + 1))) : ∀ (n t : Nat), ag_Ln G < 5 * t + 5 * n → t ≤ 513 → ∀ h S, I t h S → ag_ev gc_P l G m_law (D + 1 + 1) (ag_ret gc_P G (fun v _ => v = some (.int 1))) 23 [(0, .ref 0), (1, .ref a), (2, .ref b), (3, .ref o), (4, .int (Int32.ofNat (5 * t)))] [] (md_up h b S) := by
  intro n
  induction n with
  | zero =>
    intro t hn h9 h S hi
    refine ag_iload d_law_23 rfl ?_
    refine ag_aloadV_n (v := .ref 0) d_law_25 rfl rfl ?_
    refine ag_alen0 d_law_26 ?_
    refine ag_iconst d_law_27 ?_
    refine ag_isub d_law_28 ?_
    refine ag_icmp_gt d_law_29 rfl (fun q => ?_) (fun q => ?_)
    · refine ag_iconst d_law_806 ?_
      exact ag_iret d_law_807 rfl rfl rfl
    · have := lw_sub hL (by omega) q
      omega
  | succ n ih =>
    intro t hn h9 h S hi
    refine ag_iload d_law_23 rfl ?_
    refine ag_aloadV_n (v := .ref 0) d_law_25 rfl rfl ?_
    refine ag_alen0 d_law_26 ?_
    refine ag_iconst d_law_27 ?_
    refine ag_isub d_law_28 ?_
    refine ag_icmp_gt d_law_29 rfl (fun q => ?_) (fun q => ?_)
    · refine ag_iconst d_law_806 ?_
      exact ag_iret d_law_807 rfl rfl rfl
    · have h5 := lw_sub hL (by omega) q
      refine lw_once (K := I (t + 1)) hC htr hD hL h5 (hI t h S hi) (fun h1 S1 k1 => hI _ _ _ k1) (fun h1 S1 k1 => ?_) (hs t h S h5 hi)
      refine ag_iinc d_law_800 rfl (by decide) ?_
      refine ag_goto d_law_803 rfl ?_
      have e5 : Int32.ofNat (5 * t) + Int32.ofInt 5 = Int32.ofNat (5 * (t + 1)) := lw_add (n := 5 * t) (j := 5)
      have k2 := ih (t + 1) (by omega) (by omega) h1 S1 k1
      rw [← e5] at k2
      exact k2
