def fp_Inv (M : fp_Mem) : Prop := True
theorem fp_Inv0 : fp_Inv fp_M0 := sorry
