/-! the hands, as the law asks -/
theorem bp_eq_ {α β γ : Type} {a b : Int} {t f : Option (α × β)} {g : α → β → Option γ} : bp_ (eq_ a b t f) g = eq_ a b (bp_ t g) (bp_ f g) := by
  unfold eq_
  split
  · rfl
  · split <;> rfl
theorem bp_lt_ {α β γ : Type} {a b : Int} {t f : Option (α × β)} {g : α → β → Option γ} : bp_ (lt_ a b t f) g = lt_ a b (bp_ t g) (bp_ f g) := by
  unfold lt_
  split
  · split <;> rfl
  · rfl
theorem bp_rd {β γ δ : Type} {μ : mu_T} {k n : Nat} {i : Int} {f : Int → Option (β × γ)} {g : β → γ → Option δ} : bp_ (rd_ μ k n i f) g = rd_ μ k n i (fun v => bp_ (f v) g) := by
  unfold rd_
  split <;> rfl
theorem bp_wr {β γ δ : Type} {μ : mu_T} {k n : Nat} {i v : Int} {f : mu_T → Option (β × γ)} {g : β → γ → Option δ} : bp_ (wr_ μ k n i v f) g = wr_ μ k n i v (fun ν => bp_ (f ν) g) := by
  unfold wr_
  split <;> rfl
theorem bp_bd {α β γ δ : Type} {x : Option α} {f : α → Option (β × γ)} {g : β → γ → Option δ} : bp_ (bd_ x f) g = bd_ x (fun v => bp_ (f v) g) := by
  cases x <;> rfl
theorem e_unweak (ν : mu_T) (a : Int) : f_X12_unweak ν a = wM_ (fun ν => w_unweak ν a) ν := by
  unfold f_X12_unweak wM_ w_unweak
  congr 1
  funext μ1
  rw [bp_bd]
  congr 1
  funext v
  rw [bp_eq_, bp_some]
  have e : f_X12_ends μ1 (-11) = some (-11, μ1) := by
    unfold f_X12_ends
    rw [eq_n (by decide) (by decide) (by decide), lt_y (by decide) (by decide) (by decide)]
  rw [e, bp_some, bp_rd]
  congr 1
  congr 1
  funext v2
  rw [bp_wr]
  congr 1
  funext ν2
  rw [bp_eq_]
theorem p_urn : pf_urn RR_ := fun t μ ν a _ hR _ h => wr_op (x := fun μ => f_X1_makeUrn μ a) (y := fun ν => f_X12_makes ν a) (fun t μ ν q => op_makes q h) t μ ν hR
theorem p_tie : pf_tie RR_ := fun t μ ν a b c _ hR ha hb hc => wr_op (x := fun μ => f_X1_tieThread μ a b c) (y := fun ν => f_X12_ties ν a b c) (fun t μ ν q => op_ties q ha hb hc) t μ ν hR
theorem p_untie : pf_untie RR_ := fun t μ ν a b _ hR ha hb => wr_op (x := fun μ => f_X1_takeThread μ a b) (y := fun ν => f_X12_unties ν a b) (fun t μ ν q => op_unties q ha hb) t μ ν hR
theorem p_weak : pf_weak RR_ := fun t μ ν a b _ hR ha hb => wr_op (x := fun μ => f_X1_tieWeak μ a b) (y := fun ν => f_X12_weakens ν a b) (fun t μ ν q => op_weakens q ha hb) t μ ν hR
theorem p_unweak : pf_unweak RR_ := fun t μ ν a _ hR ha => by
  rw [e_unweak]
  exact wr_op (x := fun μ => f_X1_takeWeak μ a) (y := fun ν => w_unweak ν a) (fun t μ ν q => op_unweak q ha) t μ ν hR
theorem p_name : pf_name RR_ := fun t μ ν a b _ hR ha hb => wr_op (x := fun μ => f_X1_giveName μ a b) (y := fun ν => f_X12_names ν a b) (fun t μ ν q => op_names q ha hb) t μ ν hR
theorem p_drop : pf_drop RR_ := fun t μ ν a _ hR ha => wr_op (x := fun μ => f_X1_takeName μ a) (y := fun ν => f_X12_drops ν a) (fun t μ ν q => op_drops q ha) t μ ν hR
