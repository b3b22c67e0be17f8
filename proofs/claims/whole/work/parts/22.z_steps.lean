/-- what a step of the law needs of the two methods -/
def ok_feed (M : fp_Mem) (a1 : Int32) : Prop := ∃ (r : Int32) (M1 : fp_Mem) (M2 : fp_Mem), m_X11_feed M a1 = some (r, M1) ∧ m_X12_feed M1 a1 = some (r, M2) ∧ fp_Inv M2
def ok_realm (M : fp_Mem) : Prop := ∃ (r : Int32) (M1 : fp_Mem) (M2 : fp_Mem), m_X11_realm M  = some (r, M1) ∧ m_X12_realm M1  = some (r, M2) ∧ fp_Inv M2
def ok_fault (M : fp_Mem) : Prop := ∃ (r : Int32), m_X11_fault M  = some r ∧ m_X12_fault M  = some r ∧ fp_Inv M
def ok_told (M : fp_Mem) (a1 : Int32) : Prop := ∃ (r : Int32) (M1 : fp_Mem) (M2 : fp_Mem), m_X11_told M a1 = some (r, M1) ∧ m_X12_told M1 a1 = some (r, M2) ∧ fp_Inv M2
def ok_table (M : fp_Mem) (a1 : Int32) (a2 : Int32) : Prop := ∃ (r : Int32) (M1 : fp_Mem), m_X11_table M a1 a2 = some (r, M1) ∧ m_X12_table M1 a1 a2 = some r ∧ fp_Inv M1
def ok_way (M : fp_Mem) (a1 : Int32) (a2 : Int32) : Prop := ∃ (r : Int32), m_X11_way M a1 a2 = some r ∧ m_X12_way M a1 a2 = some r ∧ fp_Inv M
def ok_come (M : fp_Mem) (a1 : Int32) : Prop := ∃ (r : Int32) (M1 : fp_Mem) (M2 : fp_Mem), m_X11_come M a1 = some (r, M1) ∧ m_X12_come M1 a1 = some (r, M2) ∧ fp_Inv M2
def ok_go (M : fp_Mem) (a1 : Int32) : Prop := ∃ (r : Int32) (M1 : fp_Mem) (M2 : fp_Mem), m_X11_go M a1 = some (r, M1) ∧ m_X12_go M1 a1 = some (r, M2) ∧ fp_Inv M2
def ok_build (M : fp_Mem) (a1 : Int32) : Prop := ∃ (r : Int32) (M1 : fp_Mem) (M2 : fp_Mem), m_X11_build M a1 = some (r, M1) ∧ m_X12_build M1 a1 = some (r, M2) ∧ fp_Inv M2
def ok_breakOne (M : fp_Mem) (a1 : Int32) : Prop := ∃ (r : Int32) (M1 : fp_Mem) (M2 : fp_Mem), m_X11_breakOne M a1 = some (r, M1) ∧ m_X12_breakOne M1 a1 = some (r, M2) ∧ fp_Inv M2
def ok_shut (M : fp_Mem) (a1 : Int32) (a2 : Int32) : Prop := ∃ (r : Int32) (M1 : fp_Mem) (M2 : fp_Mem), m_X11_shut M a1 a2 = some (r, M1) ∧ m_X12_shut M1 a1 a2 = some (r, M2) ∧ fp_Inv M2
def ok_drift (M : fp_Mem) (a1 : Int32) : Prop := ∃ (r : Int32) (M1 : fp_Mem) (M2 : fp_Mem), m_X11_drift M a1 = some (r, M1) ∧ m_X12_drift M1 a1 = some (r, M2) ∧ fp_Inv M2
def ok_undo (M : fp_Mem) : Prop := ∃ (r : Int32) (M1 : fp_Mem) (M2 : fp_Mem), m_X11_undo M  = some (r, M1) ∧ m_X12_undo M1  = some (r, M2) ∧ fp_Inv M2
def ok_chain (M : fp_Mem) (a1 : Int32) (a2 : Int32) : Prop := ∃ (r : Int32) (M1 : fp_Mem) (M2 : fp_Mem), m_X11_chain M a1 a2 = some (r, M1) ∧ m_X12_chain M1 a1 a2 = some (r, M2) ∧ fp_Inv M2
def ok_more (M : fp_Mem) (a1 : Int32) : Prop := ∃ (r : Int32) (M1 : fp_Mem), m_X11_more M a1 = some (r, M1) ∧ m_X12_more M1 a1 = some r ∧ fp_Inv M1
def ok_far (M : fp_Mem) (a1 : Int32) : Prop := ∃ (r : Int32) (M1 : fp_Mem) (M2 : fp_Mem), m_X11_far M a1 = some (r, M1) ∧ m_X12_far M1 a1 = some (r, M2) ∧ fp_Inv M2
def ok_two (M : fp_Mem) (a1 : Int32) (a2 : Int32) (a3 : Int32) : Prop := ∃ (r : Int32) (M1 : fp_Mem) (M2 : fp_Mem), m_X11_two M a1 a2 a3 = some (r, M1) ∧ m_X12_two M1 a1 a2 a3 = some (r, M2) ∧ fp_Inv M2
def ok_chairs (M : fp_Mem) (a1 : Int32) (a2 : Int32) (a3 : Int32) : Prop := ∃ (r : Int32) (M1 : fp_Mem) (M2 : fp_Mem), m_X11_chairs M a1 a2 a3 = some (r, M1) ∧ m_X12_chairs M1 a1 a2 a3 = some (r, M2) ∧ fp_Inv M2
def ok_spread (M : fp_Mem) (a1 : Int32) : Prop := ∃ (r : Int32) (M1 : fp_Mem), m_X11_spread M a1 = some (r, M1) ∧ m_X12_spread M1 a1 = some r ∧ fp_Inv M1
def ok_quiet (M : fp_Mem) (a1 : Int32) (a2 : Int32) : Prop := ∃ (r : Int32), m_X11_quiet M a1 a2 = some r ∧ m_X12_quiet M a1 a2 = some r ∧ fp_Inv M
def ok_see (M : fp_Mem) (a1 : Int32) (a2 : Int32) : Prop := ∃ (r : Int32) (M1 : fp_Mem) (M2 : fp_Mem), m_X11_see M a1 a2 = some (r, M1) ∧ m_X12_see M1 a1 a2 = some (r, M2) ∧ fp_Inv M2
def ok_came (M : fp_Mem) : Prop := ∃ (r : Int32) (M1 : fp_Mem) (M2 : fp_Mem), m_X11_came M  = some (r, M1) ∧ m_X12_came M1  = some (r, M2) ∧ fp_Inv M2
def ok_look (M : fp_Mem) : Prop := ∃ (r : Int32) (M1 : fp_Mem) (M2 : fp_Mem), m_X11_look M  = some (r, M1) ∧ m_X12_look M1  = some (r, M2) ∧ fp_Inv M2
def ok_write (M : fp_Mem) (a1 : Int32) (a2 : Int32) : Prop := ∃ (r : Int32) (M1 : fp_Mem) (M2 : fp_Mem), m_X11_write M a1 a2 = some (r, M1) ∧ m_X12_write M1 a1 a2 = some (r, M2) ∧ fp_Inv M2
def ok_tear (M : fp_Mem) : Prop := ∃ (r : Int32) (M1 : fp_Mem) (M2 : fp_Mem), m_X11_tear M  = some (r, M1) ∧ m_X12_tear M1  = some (r, M2) ∧ fp_Inv M2
def ok_judge (M : fp_Mem) : Prop := ∃ (r : Int32), m_X11_judge M  = some r ∧ m_X12_judge M  = some r ∧ fp_Inv M
def ok_seed (M : fp_Mem) (a1 : Int32) : Prop := ∃ (r : Int32) (M1 : fp_Mem) (M2 : fp_Mem), m_X11_seed M a1 = some (r, M1) ∧ m_X12_seed M1 a1 = some (r, M2) ∧ fp_Inv M2
def ok_keep (M : fp_Mem) (a1 : Int32) : Prop := ∃ (r : Int32) (M1 : fp_Mem) (M2 : fp_Mem), m_X11_keep M a1 = some (r, M1) ∧ m_X12_keep M1 a1 = some (r, M2) ∧ fp_Inv M2
def ok_goBack (M : fp_Mem) (a1 : Int32) : Prop := ∃ (r : Int32) (M1 : fp_Mem) (M2 : fp_Mem), m_X11_goBack M a1 = some (r, M1) ∧ m_X12_goBack M1 a1 = some (r, M2) ∧ fp_Inv M2
