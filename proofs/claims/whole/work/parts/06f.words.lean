/-! THE WORDS OF THE CODE, END -/
theorem am_cd_144 : ∀ d, d < 24 → am_wd ((am_cdL[144 + d]?).getD 0) (.code (am_y (144 + d)) (am_cc (144 + d)) (am_mL (144 + d)) (am_rt (144 + d))) = true := by
  intro d h
  by_cases h1 : d < 12
  · exact am_cd_144a d h1
  · have := am_cd_156 (d - 12) (by omega)
    rw [show 156 + (d - 12) = 144 + d by omega] at this
    exact this
theorem am_cd_168 : ∀ d, d < 18 → am_wd ((am_cdL[168 + d]?).getD 0) (.code (am_y (168 + d)) (am_cc (168 + d)) (am_mL (168 + d)) (am_rt (168 + d))) = true := by decide +kernel
theorem am_cd_ok (M : Nat) (hM : M < 186) : Jvm.Cond.code (am_y M) (am_cc M) (am_mL M) (am_rt M) ∈ lw_good := by
  by_cases h0 : M < 24
  · have := am_cd_0 (M - 0) (by omega)
    rw [show 0 + (M - 0) = M by omega] at this
    exact am_wd_in this
  by_cases h24 : M < 48
  · have := am_cd_24 (M - 24) (by omega)
    rw [show 24 + (M - 24) = M by omega] at this
    exact am_wd_in this
  by_cases h48 : M < 72
  · have := am_cd_48 (M - 48) (by omega)
    rw [show 48 + (M - 48) = M by omega] at this
    exact am_wd_in this
  by_cases h72 : M < 96
  · have := am_cd_72 (M - 72) (by omega)
    rw [show 72 + (M - 72) = M by omega] at this
    exact am_wd_in this
  by_cases h96 : M < 120
  · have := am_cd_96 (M - 96) (by omega)
    rw [show 96 + (M - 96) = M by omega] at this
    exact am_wd_in this
  by_cases h120 : M < 144
  · have := am_cd_120 (M - 120) (by omega)
    rw [show 120 + (M - 120) = M by omega] at this
    exact am_wd_in this
  by_cases h144 : M < 168
  · have := am_cd_144 (M - 144) (by omega)
    rw [show 144 + (M - 144) = M by omega] at this
    exact am_wd_in this
  by_cases h168 : M < 186
  · have := am_cd_168 (M - 168) (by omega)
    rw [show 168 + (M - 168) = M by omega] at this
    exact am_wd_in this
  omega
def am_mok (M : Nat) : Bool := decide (am_cls (am_own M) = (am_y M).cls) && plainName (am_y M).cls && decide ((am_y M).cls ≠ "java/lang/invoke/MethodHandle") && decide ((am_y M).cls ≠ "java/lang/invoke/VarHandle") && decide ((parseMethodDescriptor (am_y M).desc).map (fun d => d.parameters.length) = some (am_na M - (if am_st M then 0 else 1))) && (am_st M || decide (1 ≤ am_na M))
theorem am_m_ok : ∀ M, M < 186 → am_mok M = true := by decide +kernel
theorem am_nm_ok : ∀ c, c < 10 → ∀ a, a < am_N c → ∀ b, b < am_N c → a ≠ b → (am_Tx c a).2.1 ≠ (am_Tx c b).2.1 := by decide +kernel
theorem am_ty_ok : ∀ c, c < 10 → ∀ k, k < am_N c → parseFieldDescriptor (am_Tx c k).2.2.1 = some (am_ty c k) := by decide +kernel
theorem am_wx_ok : ∀ c, c < 10 → ∀ w ∈ u_ws (am_cls c) (am_Tx c) (am_N c), w ∈ lw_good := by decide +kernel
theorem am_cl_ok : ∀ c, c < 10 → ∀ q ∈ vwCl[c]?, q.1 = am_cls c ∧ q.2.2 = am_N c := by decide +kernel
def am_tyk (t : FieldType) : Bool := match t with
  | .int | .boolean | .long | .object _ | .array _ => true
  | _ => false
theorem am_tk_ok : ∀ c, c < 10 → ∀ k, k < am_N c → am_tyk (am_ty c k) = true := by decide +kernel
theorem am_ac_ok : (am_wd 109 (.arrayClass .int) && am_wd 237 (.arrayClass .boolean) && am_wd 238 (.arrayClass .long)) = true := by decide +kernel
theorem am_own_lt : ∀ k, k < 186 → am_st k = false → 10 ≤ am_own k → False := by decide +kernel
theorem am_init_rt : ∀ k, k < 186 → (am_y k).name = "<init>" → am_rt k = none := by decide +kernel


