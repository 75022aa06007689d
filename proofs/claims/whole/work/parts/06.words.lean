/-! THE WORDS ARE IN THE TABLES -/
def lw_good : List Jvm.Cond := lw_tbl.filter goodWord
def am_wd (p : Nat) (w : Jvm.Cond) : Bool := decide (lw_tbl[p]? = some w) && goodWord w
theorem am_wd_in {p : Nat} {w : Jvm.Cond} (h : am_wd p w = true) : w ∈ lw_good := by
  simp only [am_wd, Bool.and_eq_true, decide_eq_true_eq] at h
  exact List.mem_filter.mpr ⟨List.mem_of_getElem? h.1, h.2⟩
def am_fw (q : Nat × Nat × Nat × Nat) : Jvm.Cond := .fieldLink (am_cls q.1) q.2.1 (am_Tx (q.2.2.1 / 64) (q.2.2.1 % 64)).1 (am_Tx (q.2.2.1 / 64) (q.2.2.1 % 64)).2.1 (am_Tx (q.2.2.1 / 64) (q.2.2.1 % 64)).2.2.1
theorem am_F_ok : am_F.all (fun q => am_wd q.2.2.2 (am_fw q)) = true := by decide +kernel
theorem am_K_ok : am_K.all (fun q => am_wd q.2.2.2 (.constant (am_cls q.1) q.2.1 (Int32.ofInt q.2.2.1))) = true := by decide +kernel
theorem am_J_ok : am_J.all (fun q => am_wd q.2.2.2 (.constantLong (am_cls q.1) q.2.1 (Int64.ofInt q.2.2.1))) = true := by decide +kernel
def am_gn (x : Nat) : String := if x = 0 then "LEAST_RULE" else "GREATEST_RULE"
theorem am_G_ok : am_G.all (fun q => decide (q.2.2.1 < 2) && am_wd q.2.2.2 (.fieldLink (am_cls q.1) q.2.1 "RailPower" (am_gn q.2.2.1) "[I")) = true := by decide +kernel
theorem am_Nw_ok : am_Nw.all (fun q => decide (q.2.2.1 < 10) && am_wd q.2.2.2.1 (.classLink (am_cls q.1) q.2.1 (am_cls q.2.2.1)) && am_wd q.2.2.2.2.1 (.instantiable (am_cls q.2.2.1) (am_N q.2.2.1)) && am_wd q.2.2.2.2.2 (.initialized (am_cls q.2.2.1))) = true := by decide +kernel
theorem am_A_ok : am_A.all (fun q => decide (3 ≤ q.2.2.1) && decide (q.2.2.1 < 7) && am_wd q.2.2.2 (.classLink (am_cls q.1) q.2.1 ((am_AO[q.2.2.1 - 3]?).getD ""))) = true := by decide +kernel
theorem am_O_ok : am_O.all (fun q => am_wd q.2.2 (.methodLink (am_cls q.1) q.2.1 Jvm.Lib.objectInit)) = true := by decide +kernel
theorem am_oi_ok : (am_wd am_oip (.instanceMethod Jvm.Lib.objectInit) && am_wd am_oic (.code Jvm.Lib.objectInit ⟨#[0xb1]⟩ 1 none)) = true := by decide +kernel
theorem am_Mt_ok : am_Mt.all (fun q => decide (q.2.2.1 < 4) && am_wd q.2.2.2 (.methodLink (am_cls q.1) q.2.1 (if q.2.2.1 = 0 then Jvm.Lib.Math.max.name else if q.2.2.1 = 1 then Jvm.Lib.Math.min.name else if q.2.2.1 = 2 then Jvm.Lib.Math.abs.name else Jvm.Lib.MathLoose.abs_long.x))) = true := by decide +kernel
theorem am_mi_ok : (am_wd am_mi (.initialized "java/lang/Math") && am_wd am_mp0.1 (.static Jvm.Lib.Math.max.name) && am_wd am_mp0.2 (.code Jvm.Lib.Math.max.name Jvm.Lib.Math.max.code 2 (some .int)) && am_wd am_mp1.1 (.static Jvm.Lib.Math.min.name) && am_wd am_mp1.2 (.code Jvm.Lib.Math.min.name Jvm.Lib.Math.min.code 2 (some .int)) && am_wd am_mp2.1 (.static Jvm.Lib.Math.abs.name) && am_wd am_mp2.2 (.code Jvm.Lib.Math.abs.name Jvm.Lib.Math.abs.code 1 (some .int)) && am_wd am_mp3.1 (.static Jvm.Lib.MathLoose.abs_long.x) && am_wd am_mp3.2 (.code Jvm.Lib.MathLoose.abs_long.x Jvm.Lib.MathLoose.abs_long.code 2 (some .long))) = true := by decide +kernel
def am_cw (q : Nat × Nat × Nat × Nat × Nat × Nat × Nat × Nat) : Bool :=
  am_wd q.2.2.2.2.2.2.2 (.initialized (am_y q.2.2.1).cls) && (if q.2.2.2.1 = 3 ∨ q.2.2.2.1 = 4 then decide (lw_tbl[q.2.2.2.2.1]? = some (.methodLinkNest (am_cls q.1) q.2.1 (am_y q.2.2.1) "RailPower")) else am_wd q.2.2.2.2.1 (.methodLink (am_cls q.1) q.2.1 (am_y q.2.2.1))) && (if q.2.2.2.1 = 1 ∨ q.2.2.2.1 = 4 then am_wd q.2.2.2.2.2.1 (.static (am_y q.2.2.1)) && am_st q.2.2.1 else am_wd q.2.2.2.2.2.1 (.instanceMethod (am_y q.2.2.1)) && !am_st q.2.2.1) && (if q.2.2.2.1 = 0 then am_wd q.2.2.2.2.2.2.1 (.selects (am_y q.2.2.1).cls (am_y q.2.2.1) (am_y q.2.2.1)) else true) && (if q.2.2.2.1 = 2 ∨ q.2.2.2.1 = 3 then decide ((am_y q.2.2.1).name = "<init>") else true) && decide (q.2.2.2.1 ≤ 4)
theorem am_C_ok1 : (am_C.take 60).all am_cw = true := by decide +kernel
theorem am_C_ok2 : ((am_C.drop 60).take 60).all am_cw = true := by decide +kernel
theorem am_C_ok3 : ((am_C.drop 120)).all am_cw = true := by decide +kernel
theorem am_cd_0 : ∀ d, d < 24 → am_wd ((am_cdL[0 + d]?).getD 0) (.code (am_y (0 + d)) (am_cc (0 + d)) (am_mL (0 + d)) (am_rt (0 + d))) = true := by decide +kernel
theorem am_cd_24 : ∀ d, d < 24 → am_wd ((am_cdL[24 + d]?).getD 0) (.code (am_y (24 + d)) (am_cc (24 + d)) (am_mL (24 + d)) (am_rt (24 + d))) = true := by decide +kernel
theorem am_cd_48 : ∀ d, d < 24 → am_wd ((am_cdL[48 + d]?).getD 0) (.code (am_y (48 + d)) (am_cc (48 + d)) (am_mL (48 + d)) (am_rt (48 + d))) = true := by decide +kernel
theorem am_cd_72 : ∀ d, d < 24 → am_wd ((am_cdL[72 + d]?).getD 0) (.code (am_y (72 + d)) (am_cc (72 + d)) (am_mL (72 + d)) (am_rt (72 + d))) = true := by decide +kernel
theorem am_cd_96 : ∀ d, d < 24 → am_wd ((am_cdL[96 + d]?).getD 0) (.code (am_y (96 + d)) (am_cc (96 + d)) (am_mL (96 + d)) (am_rt (96 + d))) = true := by decide +kernel
theorem am_cd_120 : ∀ d, d < 24 → am_wd ((am_cdL[120 + d]?).getD 0) (.code (am_y (120 + d)) (am_cc (120 + d)) (am_mL (120 + d)) (am_rt (120 + d))) = true := by decide +kernel
theorem am_cd_144 : ∀ d, d < 24 → am_wd ((am_cdL[144 + d]?).getD 0) (.code (am_y (144 + d)) (am_cc (144 + d)) (am_mL (144 + d)) (am_rt (144 + d))) = true := by decide +kernel
theorem am_cd_168 : ∀ d, d < 18 → am_wd ((am_cdL[168 + d]?).getD 0) (.code (am_y (168 + d)) (am_cc (168 + d)) (am_mL (168 + d)) (am_rt (168 + d))) = true := by decide +kernel
theorem am_cd_ok (M : Nat) (hM : M < 186) : Jvm.Cond.code (am_y M) (am_cc M) (am_mL M) (am_rt M) ∈ lw_good := by
  by_cases h0 : M < 24
  · have := am_cd_0 (M - 0) (by omega)
    rw [show 0 + (M - 0) = M by omega] at this
    exact am_wd_in this
  by_cases h24 : M < 48
  · have := am_cd_24 (M - 24) (by omega)
    rw [show 24 + (M - 24) = M by omega] at this
    exact am_wd_in this
  by_cases h48 : M < 72
  · have := am_cd_48 (M - 48) (by omega)
    rw [show 48 + (M - 48) = M by omega] at this
    exact am_wd_in this
  by_cases h72 : M < 96
  · have := am_cd_72 (M - 72) (by omega)
    rw [show 72 + (M - 72) = M by omega] at this
    exact am_wd_in this
  by_cases h96 : M < 120
  · have := am_cd_96 (M - 96) (by omega)
    rw [show 96 + (M - 96) = M by omega] at this
    exact am_wd_in this
  by_cases h120 : M < 144
  · have := am_cd_120 (M - 120) (by omega)
    rw [show 120 + (M - 120) = M by omega] at this
    exact am_wd_in this
  by_cases h144 : M < 168
  · have := am_cd_144 (M - 144) (by omega)
    rw [show 144 + (M - 144) = M by omega] at this
    exact am_wd_in this
  by_cases h168 : M < 186
  · have := am_cd_168 (M - 168) (by omega)
    rw [show 168 + (M - 168) = M by omega] at this
    exact am_wd_in this
  omega
def am_mok (M : Nat) : Bool := decide (am_cls (am_own M) = (am_y M).cls) && plainName (am_y M).cls && decide ((am_y M).cls ≠ "java/lang/invoke/MethodHandle") && decide ((am_y M).cls ≠ "java/lang/invoke/VarHandle") && decide ((parseMethodDescriptor (am_y M).desc).map (fun d => d.parameters.length) = some (am_na M - (if am_st M then 0 else 1))) && (am_st M || decide (1 ≤ am_na M))
theorem am_m_ok : ∀ M, M < 186 → am_mok M = true := by decide +kernel
theorem am_nm_ok : ∀ c, c < 10 → ∀ a, a < am_N c → ∀ b, b < am_N c → a ≠ b → (am_Tx c a).2.1 ≠ (am_Tx c b).2.1 := by decide +kernel
theorem am_ty_ok : ∀ c, c < 10 → ∀ k, k < am_N c → parseFieldDescriptor (am_Tx c k).2.2.1 = some (am_ty c k) := by decide +kernel
theorem am_wx_ok : ∀ c, c < 10 → ∀ w ∈ u_ws (am_cls c) (am_Tx c) (am_N c), w ∈ lw_good := by decide +kernel
theorem am_cl_ok : ∀ c, c < 10 → ∀ q ∈ vwCl[c]?, q.1 = am_cls c ∧ q.2.2 = am_N c := by decide +kernel
def am_tyk (t : FieldType) : Bool := match t with
  | .int | .boolean | .long | .object _ | .array _ => true
  | _ => false
theorem am_tk_ok : ∀ c, c < 10 → ∀ k, k < am_N c → am_tyk (am_ty c k) = true := by decide +kernel
theorem am_ac_ok : (am_wd 109 (.arrayClass .int) && am_wd 237 (.arrayClass .boolean) && am_wd 238 (.arrayClass .long)) = true := by decide +kernel
theorem am_own_lt : ∀ k, k < 186 → am_st k = false → 10 ≤ am_own k → False := by decide +kernel
theorem am_init_rt : ∀ k, k < 186 → (am_y k).name = "<init>" → am_rt k = none := by decide +kernel
