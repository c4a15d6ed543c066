set_option maxRecDepth 512
def tP_appendText (Rel Rel2 : tmM → List Int32 → tmM → Prop) : Prop := ∀ (x1 : Int32) (v : tmM) (bs : List Int32) (w : tmM) (xo : Int64) (xd : UInt64), Rel v bs w → ∃ (k : Int32) (xo' : Int64) (xd' : UInt64) (v' : tmM) (bs' : List Int32) (r : Int32) (w1 w2 : tmM), g_appendText x1 v bs xo xd = some (k, ((xo', xd'), (v', bs'))) ∧ f_X8_appendText x1 w = some (r, w1) ∧ f_X8_thrown w1 = some (k, w2) ∧ (k = 0 → xo' = r.toInt64) ∧ Rel2 v' bs' w2
def tP_truncateText (Rel Rel2 : tmM → List Int32 → tmM → Prop) : Prop := ∀ (x1 : Int32) (v : tmM) (bs : List Int32) (w : tmM) (xo : Int64) (xd : UInt64), Rel v bs w → ∃ (k : Int32) (xo' : Int64) (xd' : UInt64) (v' : tmM) (bs' : List Int32) (r : Int32) (w1 w2 : tmM), g_truncateText x1 v bs xo xd = some (k, ((xo', xd'), (v', bs'))) ∧ f_X8_truncateText x1 w = some (r, w1) ∧ f_X8_thrown w1 = some (k, w2) ∧ (k = 0 → xo' = r.toInt64) ∧ Rel2 v' bs' w2
def tP_runScript (Rel Rel2 : tmM → List Int32 → tmM → Prop) : Prop := ∀ (v : tmM) (bs : List Int32) (w : tmM), Rel v bs w → ∃ (r : Int32) (v' w' : tmM), f_X7_runScript v = some (r, v') ∧ f_X8_runScript w = some (r, w') ∧ Rel2 v' bs w'
def tP_errorCode (Rel Rel2 : tmM → List Int32 → tmM → Prop) : Prop := ∀ (v : tmM) (bs : List Int32) (w : tmM), Rel v bs w → ∃ (r : Int32) (v' w' : tmM), f_X7_errorCode v = some (r, v') ∧ f_X8_errorCode w = some (r, w') ∧ Rel2 v' bs w'
def tP_errorPosition (Rel Rel2 : tmM → List Int32 → tmM → Prop) : Prop := ∀ (v : tmM) (bs : List Int32) (w : tmM), Rel v bs w → ∃ (r : Int32) (v' w' : tmM), f_X7_errorPosition v = some (r, v') ∧ f_X8_errorPosition w = some (r, w') ∧ Rel2 v' bs w'
def tP_setForm (Rel Rel2 : tmM → List Int32 → tmM → Prop) : Prop := ∀ (x1 x2 : Int32) (v : tmM) (bs : List Int32) (w : tmM) (xo : Int64) (xd : UInt64), Rel v bs w → ∃ (k : Int32) (xo' : Int64) (xd' : UInt64) (v' : tmM) (bs' : List Int32) (w1 w2 : tmM), g_setForm x1 x2 v bs xo xd = some (k, ((xo', xd'), (v', bs'))) ∧ f_X8_setForm x1 x2 w = some ((), w1) ∧ f_X8_thrown w1 = some (k, w2) ∧ Rel2 v' bs' w2
def tP_setUp (Rel Rel2 : tmM → List Int32 → tmM → Prop) : Prop := ∀ (x1 x2 : Int32) (v : tmM) (bs : List Int32) (w : tmM) (xo : Int64) (xd : UInt64), (x2 = 0 ∨ x2 = 1) → Rel v bs w → ∃ (k : Int32) (xo' : Int64) (xd' : UInt64) (v' : tmM) (bs' : List Int32) (r : Int32) (w1 w2 : tmM), g_setUp x1 x2 v bs xo xd = some (k, ((xo', xd'), (v', bs'))) ∧ f_X8_setUp x1 x2 w = some (r, w1) ∧ f_X8_thrown w1 = some (k, w2) ∧ (k = 0 → xo' = (if r = 0 then 0 else 1)) ∧ Rel2 v' bs' w2
def tP_damage (Rel Rel2 : tmM → List Int32 → tmM → Prop) : Prop := ∀ (x1 x2 : Int32) (v : tmM) (bs : List Int32) (w : tmM) (xo : Int64) (xd : UInt64), Rel v bs w → ∃ (k : Int32) (xo' : Int64) (xd' : UInt64) (v' : tmM) (bs' : List Int32) (r : Int32) (w1 w2 : tmM), g_damage x1 x2 v bs xo xd = some (k, ((xo', xd'), (v', bs'))) ∧ f_X8_damage x1 x2 w = some (r, w1) ∧ f_X8_thrown w1 = some (k, w2) ∧ (k = 0 → xo' = r.toInt64) ∧ Rel2 v' bs' w2
def tP_count (Rel Rel2 : tmM → List Int32 → tmM → Prop) : Prop := ∀ (x1 : Int32) (v : tmM) (bs : List Int32) (w : tmM) (xo : Int64) (xd : UInt64), Rel v bs w → ∃ (k : Int32) (xo' : Int64) (xd' : UInt64) (v' : tmM) (bs' : List Int32) (r : Int32) (w1 w2 : tmM), g_count x1 v bs xo xd = some (k, ((xo', xd'), (v', bs'))) ∧ f_X8_count x1 w = some (r, w1) ∧ f_X8_thrown w1 = some (k, w2) ∧ (k = 0 → xo' = r.toInt64) ∧ Rel2 v' bs' w2
def tP_stored (Rel Rel2 : tmM → List Int32 → tmM → Prop) : Prop := ∀ (x1 x2 : Int32) (v : tmM) (bs : List Int32) (w : tmM) (xo : Int64) (xd : UInt64), Rel v bs w → ∃ (k : Int32) (xo' : Int64) (xd' : UInt64) (v' : tmM) (bs' : List Int32) (r : Int32) (w1 w2 : tmM), g_stored x1 x2 v bs xo xd = some (k, ((xo', xd'), (v', bs'))) ∧ f_X8_stored x1 x2 w = some (r, w1) ∧ f_X8_thrown w1 = some (k, w2) ∧ (k = 0 → xo' = r.toInt64) ∧ Rel2 v' bs' w2
def tP_read (Rel Rel2 : tmM → List Int32 → tmM → Prop) : Prop := ∀ (x1 x2 : Int32) (v : tmM) (bs : List Int32) (w : tmM) (xo : Int64) (xd : UInt64), Rel v bs w → ∃ (k : Int32) (xo' : Int64) (xd' : UInt64) (v' : tmM) (bs' : List Int32) (r : Int32) (w1 w2 : tmM), g_read x1 x2 v bs xo xd = some (k, ((xo', xd'), (v', bs'))) ∧ f_X8_read x1 x2 w = some (r, w1) ∧ f_X8_thrown w1 = some (k, w2) ∧ (k = 0 → xo' = r.toInt64) ∧ Rel2 v' bs' w2
def tP_isSwitched (Rel Rel2 : tmM → List Int32 → tmM → Prop) : Prop := ∀ (x1 : Int32) (v : tmM) (bs : List Int32) (w : tmM) (xo : Int64) (xd : UInt64), Rel v bs w → ∃ (k : Int32) (xo' : Int64) (xd' : UInt64) (v' : tmM) (bs' : List Int32) (r : Int32) (w1 w2 : tmM), g_isSwitched x1 v bs xo xd = some (k, ((xo', xd'), (v', bs'))) ∧ f_X8_isSwitched x1 w = some (r, w1) ∧ f_X8_thrown w1 = some (k, w2) ∧ (k = 0 → xo' = (if r = 0 then 0 else 1)) ∧ Rel2 v' bs' w2
def tP_chunk (Rel Rel2 : tmM → List Int32 → tmM → Prop) : Prop := ∀ (x1 x2 : Int32) (v : tmM) (bs : List Int32) (w : tmM) (xo : Int64) (xd : UInt64), Rel v bs w → ∃ (k : Int32) (xo' : Int64) (xd' : UInt64) (v' : tmM) (bs' : List Int32) (r : Int32) (w1 w2 : tmM), g_chunk x1 x2 v bs xo xd = some (k, ((xo', xd'), (v', bs'))) ∧ f_X8_chunk x1 x2 w = some (r, w1) ∧ f_X8_thrown w1 = some (k, w2) ∧ (k = 0 → xo' = r.toInt64) ∧ Rel2 v' bs' w2
def tP_stale (Rel Rel2 : tmM → List Int32 → tmM → Prop) : Prop := ∀ (x1 : Int32) (v : tmM) (bs : List Int32) (w : tmM) (xo : Int64) (xd : UInt64), Rel v bs w → ∃ (k : Int32) (xo' : Int64) (xd' : UInt64) (v' : tmM) (bs' : List Int32) (r : Int32) (w1 w2 : tmM), g_stale x1 v bs xo xd = some (k, ((xo', xd'), (v', bs'))) ∧ f_X8_stale x1 w = some (r, w1) ∧ f_X8_thrown w1 = some (k, w2) ∧ (k = 0 → xo' = r.toInt64) ∧ Rel2 v' bs' w2
def tP_brokenPromise (Rel Rel2 : tmM → List Int32 → tmM → Prop) : Prop := ∀ (v : tmM) (bs : List Int32) (w : tmM), Rel v bs w → ∃ (r : Int32) (v' w' : tmM), f_X7_brokenPromise v = some (r, v') ∧ f_X8_brokenPromise w = some (r, w') ∧ Rel2 v' bs w'
def tP_troubledReaders (Rel Rel2 : tmM → List Int32 → tmM → Prop) : Prop := ∀ (v : tmM) (bs : List Int32) (w : tmM), Rel v bs w → ∃ (r : Int32) (v' w' : tmM), f_X7_troubledReaders v = some (r, v') ∧ f_X8_troubledReaders w = some (r, w') ∧ Rel2 v' bs w'
def tP_event (Rel Rel2 : tmM → List Int32 → tmM → Prop) : Prop := ∀ (x1 x2 : Int32) (v : tmM) (bs : List Int32) (w : tmM) (xo : Int64) (xd : UInt64), Rel v bs w → ∃ (k : Int32) (xo' : Int64) (xd' : UInt64) (v' : tmM) (bs' : List Int32) (r : Int32) (w1 w2 : tmM), g_event x1 x2 v bs xo xd = some (k, ((xo', xd'), (v', bs'))) ∧ f_X8_event x1 x2 w = some (r, w1) ∧ f_X8_thrown w1 = some (k, w2) ∧ (k = 0 → xo' = r.toInt64) ∧ Rel2 v' bs' w2
def tP_since (Rel Rel2 : tmM → List Int32 → tmM → Prop) : Prop := ∀ (x1 x2 : Int32) (v : tmM) (bs : List Int32) (w : tmM) (xo : Int64) (xd : UInt64), Rel v bs w → ∃ (k : Int32) (xo' : Int64) (xd' : UInt64) (v' : tmM) (bs' : List Int32) (r : Int32) (w1 w2 : tmM), g_since x1 x2 v bs xo xd = some (k, ((xo', xd'), (v', bs'))) ∧ f_X8_since x1 x2 w = some (r, w1) ∧ f_X8_thrown w1 = some (k, w2) ∧ (k = 0 → xo' = r.toInt64) ∧ Rel2 v' bs' w2
def tP_account (Rel Rel2 : tmM → List Int32 → tmM → Prop) : Prop := ∀ (x1 : Int32) (v : tmM) (bs : List Int32) (w : tmM) (xo : Int64) (xd : UInt64), Rel v bs w → ∃ (k : Int32) (xo' : Int64) (xd' : UInt64) (v' : tmM) (bs' : List Int32) (r : Int32) (w1 w2 : tmM), g_account x1 v bs xo xd = some (k, ((xo', xd'), (v', bs'))) ∧ f_X8_account x1 w = some (r, w1) ∧ f_X8_thrown w1 = some (k, w2) ∧ (k = 0 → xo' = r.toInt64) ∧ Rel2 v' bs' w2
def tP_put (Rel Rel2 : tmM → List Int32 → tmM → Prop) : Prop := ∀ (x1 x2 : Int32) (v : tmM) (bs : List Int32) (w : tmM) (xo : Int64) (xd : UInt64), Rel v bs w → ∃ (k : Int32) (xo' : Int64) (xd' : UInt64) (v' : tmM) (bs' : List Int32) (r : Int32) (w1 w2 : tmM), g_put x1 x2 v bs xo xd = some (k, ((xo', xd'), (v', bs'))) ∧ f_X8_put x1 x2 w = some (r, w1) ∧ f_X8_thrown w1 = some (k, w2) ∧ (k = 0 → xo' = r.toInt64) ∧ Rel2 v' bs' w2
def tP_remove (Rel Rel2 : tmM → List Int32 → tmM → Prop) : Prop := ∀ (x1 : Int32) (v : tmM) (bs : List Int32) (w : tmM) (xo : Int64) (xd : UInt64), Rel v bs w → ∃ (k : Int32) (xo' : Int64) (xd' : UInt64) (v' : tmM) (bs' : List Int32) (r : Int32) (w1 w2 : tmM), g_remove x1 v bs xo xd = some (k, ((xo', xd'), (v', bs'))) ∧ f_X8_remove x1 w = some (r, w1) ∧ f_X8_thrown w1 = some (k, w2) ∧ (k = 0 → xo' = r.toInt64) ∧ Rel2 v' bs' w2
def tP_begin (Rel Rel2 : tmM → List Int32 → tmM → Prop) : Prop := ∀ (v : tmM) (bs : List Int32) (w : tmM), Rel v bs w → ∃ (r : Int32) (v' w' : tmM), f_X7_begin v = some (r, v') ∧ f_X8_begin w = some (r, w') ∧ Rel2 v' bs w'
def tP_copy (Rel Rel2 : tmM → List Int32 → tmM → Prop) : Prop := ∀ (x1 : Int32) (v : tmM) (bs : List Int32) (w : tmM) (xo : Int64) (xd : UInt64), Rel v bs w → ∃ (k : Int32) (xo' : Int64) (xd' : UInt64) (v' : tmM) (bs' : List Int32) (r : Int32) (w1 w2 : tmM), g_copy x1 v bs xo xd = some (k, ((xo', xd'), (v', bs'))) ∧ f_X8_copy x1 w = some (r, w1) ∧ f_X8_thrown w1 = some (k, w2) ∧ (k = 0 → xo' = r.toInt64) ∧ Rel2 v' bs' w2
def tP_repair (Rel Rel2 : tmM → List Int32 → tmM → Prop) : Prop := ∀ (x1 : Int32) (v : tmM) (bs : List Int32) (w : tmM) (xo : Int64) (xd : UInt64), Rel v bs w → ∃ (k : Int32) (xo' : Int64) (xd' : UInt64) (v' : tmM) (bs' : List Int32) (r : Int32) (w1 w2 : tmM), g_repair x1 v bs xo xd = some (k, ((xo', xd'), (v', bs'))) ∧ f_X8_repair x1 w = some (r, w1) ∧ f_X8_thrown w1 = some (k, w2) ∧ (k = 0 → xo' = r.toInt64) ∧ Rel2 v' bs' w2
def tP_check (Rel Rel2 : tmM → List Int32 → tmM → Prop) : Prop := ∀ (x1 : Int32) (v : tmM) (bs : List Int32) (w : tmM) (xo : Int64) (xd : UInt64), Rel v bs w → ∃ (k : Int32) (xo' : Int64) (xd' : UInt64) (v' : tmM) (bs' : List Int32) (r : Int32) (w1 w2 : tmM), g_check x1 v bs xo xd = some (k, ((xo', xd'), (v', bs'))) ∧ f_X8_check x1 w = some (r, w1) ∧ f_X8_thrown w1 = some (k, w2) ∧ (k = 0 → xo' = r.toInt64) ∧ Rel2 v' bs' w2
def tP_switchOver (Rel Rel2 : tmM → List Int32 → tmM → Prop) : Prop := ∀ (x1 : Int32) (v : tmM) (bs : List Int32) (w : tmM) (xo : Int64) (xd : UInt64), Rel v bs w → ∃ (k : Int32) (xo' : Int64) (xd' : UInt64) (v' : tmM) (bs' : List Int32) (r : Int32) (w1 w2 : tmM), g_switchOver x1 v bs xo xd = some (k, ((xo', xd'), (v', bs'))) ∧ f_X8_switchOver x1 w = some (r, w1) ∧ f_X8_thrown w1 = some (k, w2) ∧ (k = 0 → xo' = r.toInt64) ∧ Rel2 v' bs' w2
def tP_switchBack (Rel Rel2 : tmM → List Int32 → tmM → Prop) : Prop := ∀ (x1 : Int32) (v : tmM) (bs : List Int32) (w : tmM) (xo : Int64) (xd : UInt64), Rel v bs w → ∃ (k : Int32) (xo' : Int64) (xd' : UInt64) (v' : tmM) (bs' : List Int32) (r : Int32) (w1 w2 : tmM), g_switchBack x1 v bs xo xd = some (k, ((xo', xd'), (v', bs'))) ∧ f_X8_switchBack x1 w = some (r, w1) ∧ f_X8_thrown w1 = some (k, w2) ∧ (k = 0 → xo' = r.toInt64) ∧ Rel2 v' bs' w2
def tP_lead (Rel Rel2 : tmM → List Int32 → tmM → Prop) : Prop := ∀ (v : tmM) (bs : List Int32) (w : tmM), Rel v bs w → ∃ (r : Int32) (v' w' : tmM), f_X7_lead v = some (r, v') ∧ f_X8_lead w = some (r, w') ∧ Rel2 v' bs w'
def tP_goBack (Rel Rel2 : tmM → List Int32 → tmM → Prop) : Prop := ∀ (x1 : Int32) (v : tmM) (bs : List Int32) (w : tmM), (x1 = 0 ∨ x1 = 1) → Rel v bs w → ∃ (r : Int32) (v' w' : tmM), f_X7_goBack x1 v = some (r, v') ∧ f_X8_goBack x1 w = some (r, w') ∧ Rel2 v' bs w'
def tP_stop (Rel Rel2 : tmM → List Int32 → tmM → Prop) : Prop := ∀ (v : tmM) (bs : List Int32) (w : tmM), Rel v bs w → ∃ (r : Int32) (v' w' : tmM), f_X7_stop v = some (r, v') ∧ f_X8_stop w = some (r, w') ∧ Rel2 v' bs w'
def tP_finish (Rel Rel2 : tmM → List Int32 → tmM → Prop) : Prop := ∀ (v : tmM) (bs : List Int32) (w : tmM), Rel v bs w → ∃ (r : Int32) (v' w' : tmM), f_X7_finish v = some (r, v') ∧ f_X8_finish w = some (r, w') ∧ Rel2 v' bs w'
def tP_fill (Rel Rel2 : tmM → List Int32 → tmM → Prop) : Prop := ∀ (x1 x2 x3 x4 : Int32) (v : tmM) (bs : List Int32) (w : tmM) (xo : Int64) (xd : UInt64), Rel v bs w → ∃ (k : Int32) (xo' : Int64) (xd' : UInt64) (v' : tmM) (bs' : List Int32) (r : Int32) (w1 w2 : tmM), g_fill x1 x2 x3 x4 v bs xo xd = some (k, ((xo', xd'), (v', bs'))) ∧ f_X8_fill x1 x2 x3 x4 w = some (r, w1) ∧ f_X8_thrown w1 = some (k, w2) ∧ (k = 0 → xo' = r.toInt64) ∧ Rel2 v' bs' w2
def tP_clearRange (Rel Rel2 : tmM → List Int32 → tmM → Prop) : Prop := ∀ (x1 x2 : Int32) (v : tmM) (bs : List Int32) (w : tmM) (xo : Int64) (xd : UInt64), Rel v bs w → ∃ (k : Int32) (xo' : Int64) (xd' : UInt64) (v' : tmM) (bs' : List Int32) (r : Int32) (w1 w2 : tmM), g_clearRange x1 x2 v bs xo xd = some (k, ((xo', xd'), (v', bs'))) ∧ f_X8_clearRange x1 x2 w = some (r, w1) ∧ f_X8_thrown w1 = some (k, w2) ∧ (k = 0 → xo' = r.toInt64) ∧ Rel2 v' bs' w2
def tP_why (Rel Rel2 : tmM → List Int32 → tmM → Prop) : Prop := ∀ (x1 x2 : Int32) (v : tmM) (bs : List Int32) (w : tmM) (xo : Int64) (xd : UInt64), Rel v bs w → ∃ (k : Int32) (xo' : Int64) (xd' : UInt64) (v' : tmM) (bs' : List Int32) (r : Int32) (w1 w2 : tmM), g_why x1 x2 v bs xo xd = some (k, ((xo', xd'), (v', bs'))) ∧ f_X8_why x1 x2 w = some (r, w1) ∧ f_X8_thrown w1 = some (k, w2) ∧ (k = 0 → xo' = r.toInt64) ∧ Rel2 v' bs' w2
def tP_next (Rel Rel2 : tmM → List Int32 → tmM → Prop) : Prop := ∀ (x1 : Int32) (v : tmM) (bs : List Int32) (w : tmM) (xo : Int64) (xd : UInt64), Rel v bs w → ∃ (k : Int32) (xo' : Int64) (xd' : UInt64) (v' : tmM) (bs' : List Int32) (r : Int32) (w1 w2 : tmM), g_next x1 v bs xo xd = some (k, ((xo', xd'), (v', bs'))) ∧ f_X8_next x1 w = some (r, w1) ∧ f_X8_thrown w1 = some (k, w2) ∧ (k = 0 → xo' = r.toInt64) ∧ Rel2 v' bs' w2
def tP_advance (Rel Rel2 : tmM → List Int32 → tmM → Prop) : Prop := ∀ (x1 : Int32) (v : tmM) (bs : List Int32) (w : tmM) (xo : Int64) (xd : UInt64), Rel v bs w → ∃ (k : Int32) (xo' : Int64) (xd' : UInt64) (v' : tmM) (bs' : List Int32) (r : Int32) (w1 w2 : tmM), g_advance x1 v bs xo xd = some (k, ((xo', xd'), (v', bs'))) ∧ f_X8_advance x1 w = some (r, w1) ∧ f_X8_thrown w1 = some (k, w2) ∧ (k = 0 → xo' = r.toInt64) ∧ Rel2 v' bs' w2
def tP_differing (Rel Rel2 : tmM → List Int32 → tmM → Prop) : Prop := ∀ (x1 : Int32) (v : tmM) (bs : List Int32) (w : tmM) (xo : Int64) (xd : UInt64), Rel v bs w → ∃ (k : Int32) (xo' : Int64) (xd' : UInt64) (v' : tmM) (bs' : List Int32) (r : Int32) (w1 w2 : tmM), g_differing x1 v bs xo xd = some (k, ((xo', xd'), (v', bs'))) ∧ f_X8_differing x1 w = some (r, w1) ∧ f_X8_thrown w1 = some (k, w2) ∧ (k = 0 → xo' = r.toInt64) ∧ Rel2 v' bs' w2
def tP_lookup (Rel Rel2 : tmM → List Int32 → tmM → Prop) : Prop := ∀ (x1 x2 : Int32) (v : tmM) (bs : List Int32) (w : tmM) (xo : Int64) (xd : UInt64), Rel v bs w → ∃ (k : Int32) (xo' : Int64) (xd' : UInt64) (v' : tmM) (bs' : List Int32) (r : Int32) (w1 w2 : tmM), g_lookup x1 x2 v bs xo xd = some (k, ((xo', xd'), (v', bs'))) ∧ f_X8_lookup x1 x2 w = some (r, w1) ∧ f_X8_thrown w1 = some (k, w2) ∧ (k = 0 → xo' = r.toInt64) ∧ Rel2 v' bs' w2
def tP_total (Rel Rel2 : tmM → List Int32 → tmM → Prop) : Prop := ∀ (x1 x2 : Int32) (v : tmM) (bs : List Int32) (w : tmM) (xo : Int64) (xd : UInt64), Rel v bs w → ∃ (k : Int32) (xo' : Int64) (xd' : UInt64) (v' : tmM) (bs' : List Int32) (r : Int32) (w1 w2 : tmM), g_total x1 x2 v bs xo xd = some (k, ((xo', xd'), (v', bs'))) ∧ f_X8_total x1 x2 w = some (r, w1) ∧ f_X8_thrown w1 = some (k, w2) ∧ (k = 0 → xo' = r.toInt64) ∧ Rel2 v' bs' w2
def tP_mean (Rel Rel2 : tmM → List Int32 → tmM → Prop) : Prop := ∀ (x1 : Int32) (v : tmM) (bs : List Int32) (w : tmM) (xo : Int64) (xd : UInt64), Rel v bs w → ∃ (k : Int32) (xo' : Int64) (xd' : UInt64) (v' : tmM) (bs' : List Int32) (r : UInt64) (w1 w2 : tmM), g_mean x1 v bs xo xd = some (k, ((xo', xd'), (v', bs'))) ∧ f_X8_mean x1 w = some (r, w1) ∧ f_X8_thrown w1 = some (k, w2) ∧ (k = 0 → FP.dcmp xd' r = some .eq) ∧ Rel2 v' bs' w2
def tP_agreement (Rel Rel2 : tmM → List Int32 → tmM → Prop) : Prop := ∀ (v : tmM) (bs : List Int32) (w : tmM), Rel v bs w → ∃ (r r2 : UInt32) (v' w' : tmM), f_X7_agreement v = some (r, v') ∧ f_X8_agreement w = some (r2, w') ∧ vf_n64 (FP.f2d r) ∧ vf_n64 (FP.f2d r2) ∧ FP.dcmp (FP.f2d r) (FP.f2d r2) = some .eq ∧ Rel2 v' bs w'
def tP_readSum (Rel Rel2 : tmM → List Int32 → tmM → Prop) : Prop := ∀ (x1 x2 x3 : Int32) (v : tmM) (bs : List Int32) (w : tmM) (xo : Int64) (xd : UInt64), Rel v bs w → ∃ (k : Int32) (xo' : Int64) (xd' : UInt64) (v' : tmM) (bs' : List Int32) (r : Int32) (w1 w2 : tmM), g_readSum x1 x2 x3 v bs xo xd = some (k, ((xo', xd'), (v', bs'))) ∧ f_X8_readSum x1 x2 x3 w = some (r, w1) ∧ f_X8_thrown w1 = some (k, w2) ∧ (k = 0 → xo' = r.toInt64) ∧ Rel2 v' bs' w2
def tP_written (Rel Rel2 : tmM → List Int32 → tmM → Prop) : Prop := ∀ (x1 : Int32) (v : tmM) (bs : List Int32) (w : tmM) (xo : Int64) (xd : UInt64), Rel v bs w → ∃ (k : Int32) (xo' : Int64) (xd' : UInt64) (v' : tmM) (bs' : List Int32) (r : Int32) (w1 w2 : tmM), g_written x1 v bs xo xd = some (k, ((xo', xd'), (v', bs'))) ∧ f_X8_written x1 w = some (r, w1) ∧ f_X8_thrown w1 = some (k, w2) ∧ (k = 0 → xo' = r.toInt64) ∧ Rel2 v' bs' w2
def tP_changed (Rel Rel2 : tmM → List Int32 → tmM → Prop) : Prop := ∀ (x1 : Int32) (v : tmM) (bs : List Int32) (w : tmM) (xo : Int64) (xd : UInt64), Rel v bs w → ∃ (k : Int32) (xo' : Int64) (xd' : UInt64) (v' : tmM) (bs' : List Int32) (r : Int32) (w1 w2 : tmM), g_changed x1 v bs xo xd = some (k, ((xo', xd'), (v', bs'))) ∧ f_X8_changed x1 w = some (r, w1) ∧ f_X8_thrown w1 = some (k, w2) ∧ (k = 0 → xo' = r.toInt64) ∧ Rel2 v' bs' w2
def tP_eventsOf (Rel Rel2 : tmM → List Int32 → tmM → Prop) : Prop := ∀ (x1 x2 : Int32) (v : tmM) (bs : List Int32) (w : tmM) (xo : Int64) (xd : UInt64), Rel v bs w → ∃ (k : Int32) (xo' : Int64) (xd' : UInt64) (v' : tmM) (bs' : List Int32) (r : Int32) (w1 w2 : tmM), g_eventsOf x1 x2 v bs xo xd = some (k, ((xo', xd'), (v', bs'))) ∧ f_X8_eventsOf x1 x2 w = some (r, w1) ∧ f_X8_thrown w1 = some (k, w2) ∧ (k = 0 → xo' = r.toInt64) ∧ Rel2 v' bs' w2
def tP_write (Rel Rel2 : tmM → List Int32 → tmM → Prop) : Prop := ∀ (x1 : Int32) (v : tmM) (bs : List Int32) (w : tmM) (xo : Int64) (xd : UInt64), Rel v bs w → ∃ (k : Int32) (xo' : Int64) (xd' : UInt64) (v' : tmM) (bs' : List Int32) (r : Int32) (w1 w2 : tmM), g_write x1 v bs xo xd = some (k, ((xo', xd'), (v', bs'))) ∧ f_X8_write x1 w = some (r, w1) ∧ f_X8_thrown w1 = some (k, w2) ∧ (k = 0 → xo' = r.toInt64) ∧ Rel2 v' bs' w2
def tP_output (Rel Rel2 : tmM → List Int32 → tmM → Prop) : Prop := ∀ (x1 : Int32) (v : tmM) (bs : List Int32) (w : tmM), Rel v bs w → ∃ (r : Int32) (v' : tmM) (bs' : List Int32) (w' : tmM), f_X7_output x1 v bs = some (r, (v', bs')) ∧ f_X8_output x1 w = some (r, w') ∧ Rel2 v' bs' w'
def tP_undo (Rel Rel2 : tmM → List Int32 → tmM → Prop) : Prop := ∀ (v : tmM) (bs : List Int32) (w : tmM), Rel v bs w → ∃ (r : Int32) (v' w' : tmM), f_X7_undo v = some (r, v') ∧ f_X8_undo w = some (r, w') ∧ Rel2 v' bs w'
def tP_save (Rel Rel2 : tmM → List Int32 → tmM → Prop) : Prop := ∀ (x1 : Int32) (v : tmM) (bs : List Int32) (w : tmM) (xo : Int64) (xd : UInt64), Rel v bs w → ∃ (k : Int32) (xo' : Int64) (xd' : UInt64) (v' : tmM) (bs' : List Int32) (w1 w2 : tmM), g_save x1 v bs xo xd = some (k, ((xo', xd'), (v', bs'))) ∧ f_X8_save x1 w = some ((), w1) ∧ f_X8_thrown w1 = some (k, w2) ∧ Rel2 v' bs' w2
def tP_restore (Rel Rel2 : tmM → List Int32 → tmM → Prop) : Prop := ∀ (x1 : Int32) (v : tmM) (bs : List Int32) (w : tmM) (xo : Int64) (xd : UInt64), Rel v bs w → ∃ (k : Int32) (xo' : Int64) (xd' : UInt64) (v' : tmM) (bs' : List Int32) (w1 w2 : tmM), g_restore x1 v bs xo xd = some (k, ((xo', xd'), (v', bs'))) ∧ f_X8_restore x1 w = some ((), w1) ∧ f_X8_thrown w1 = some (k, w2) ∧ Rel2 v' bs' w2
theorem dL_law_260 : decode cL_law 260 = .ok (.aload_n 1, 1) := by decide +kernel
theorem dL_law_261 : decode cL_law 261 = .ok (.aload_n 0, 1) := by decide +kernel
theorem dL_law_262 : decode cL_law 262 = .ok (.iload 5, 2) := by decide +kernel
theorem dL_law_264 : decode cL_law 264 = .ok (.iconst 1, 1) := by decide +kernel
theorem dL_law_265 : decode cL_law 265 = .ok (.iadd, 1) := by decide +kernel
theorem dL_law_266 : decode cL_law 266 = .ok (.iaload, 1) := by decide +kernel
theorem dL_law_267 : decode cL_law 267 = .ok (.aload_n 3, 1) := by decide +kernel
theorem dL_law_268 : decode cL_law 268 = .ok (.invokestatic 139, 3) := by decide +kernel
theorem dL_law_271 : decode cL_law 271 = .ok (.istore 6, 2) := by decide +kernel
theorem dL_law_273 : decode cL_law 273 = .ok (.aload_n 2, 1) := by decide +kernel
theorem dL_law_274 : decode cL_law 274 = .ok (.aload_n 0, 1) := by decide +kernel
theorem dL_law_275 : decode cL_law 275 = .ok (.iload 5, 2) := by decide +kernel
theorem dL_law_277 : decode cL_law 277 = .ok (.iconst 1, 1) := by decide +kernel
theorem dL_law_278 : decode cL_law 278 = .ok (.iadd, 1) := by decide +kernel
theorem dL_law_279 : decode cL_law 279 = .ok (.iaload, 1) := by decide +kernel
theorem dL_law_280 : decode cL_law 280 = .ok (.invokevirtual 144, 3) := by decide +kernel
theorem dL_law_283 : decode cL_law 283 = .ok (.istore 7, 2) := by decide +kernel
theorem dL_law_285 : decode cL_law 285 = .ok (.aload_n 2, 1) := by decide +kernel
theorem dL_law_286 : decode cL_law 286 = .ok (.invokevirtual 145, 3) := by decide +kernel
theorem dL_law_289 : decode cL_law 289 = .ok (.iload 6, 2) := by decide +kernel
theorem dL_law_291 : decode cL_law 291 = .ok (.if_icmp .eq 5, 3) := by decide +kernel
theorem dL_law_296 : decode cL_law 296 = .ok (.iload 6, 2) := by decide +kernel
theorem dL_law_298 : decode cL_law 298 = .ok (.ifCond .ne 15, 3) := by decide +kernel
theorem dL_law_301 : decode cL_law 301 = .ok (.aload_n 3, 1) := by decide +kernel
theorem dL_law_302 : decode cL_law 302 = .ok (.iconst 0, 1) := by decide +kernel
theorem dL_law_303 : decode cL_law 303 = .ok (.laload, 1) := by decide +kernel
theorem dL_law_304 : decode cL_law 304 = .ok (.iload 7, 2) := by decide +kernel
theorem dL_law_306 : decode cL_law 306 = .ok (.i2l, 1) := by decide +kernel
theorem dL_law_307 : decode cL_law 307 = .ok (.lcmp, 1) := by decide +kernel
theorem dL_law_308 : decode cL_law 308 = .ok (.ifCond .eq 5, 3) := by decide +kernel
theorem dL_law_313 : decode cL_law 313 = .ok (.goto 2477, 3) := by decide +kernel
theorem dL_law_316 : decode cL_law 316 = .ok (.aload_n 1, 1) := by decide +kernel
theorem dL_law_317 : decode cL_law 317 = .ok (.aload_n 0, 1) := by decide +kernel
theorem dL_law_318 : decode cL_law 318 = .ok (.iload 5, 2) := by decide +kernel
theorem dL_law_320 : decode cL_law 320 = .ok (.iconst 1, 1) := by decide +kernel
theorem dL_law_321 : decode cL_law 321 = .ok (.iadd, 1) := by decide +kernel
theorem dL_law_322 : decode cL_law 322 = .ok (.iaload, 1) := by decide +kernel
theorem dL_law_323 : decode cL_law 323 = .ok (.aload_n 3, 1) := by decide +kernel
theorem dL_law_324 : decode cL_law 324 = .ok (.invokestatic 149, 3) := by decide +kernel
theorem dL_law_327 : decode cL_law 327 = .ok (.istore 6, 2) := by decide +kernel
theorem dL_law_329 : decode cL_law 329 = .ok (.aload_n 2, 1) := by decide +kernel
theorem dL_law_330 : decode cL_law 330 = .ok (.aload_n 0, 1) := by decide +kernel
theorem dL_law_331 : decode cL_law 331 = .ok (.iload 5, 2) := by decide +kernel
theorem dL_law_333 : decode cL_law 333 = .ok (.iconst 1, 1) := by decide +kernel
theorem dL_law_334 : decode cL_law 334 = .ok (.iadd, 1) := by decide +kernel
theorem dL_law_335 : decode cL_law 335 = .ok (.iaload, 1) := by decide +kernel
theorem dL_law_336 : decode cL_law 336 = .ok (.invokevirtual 151, 3) := by decide +kernel
theorem dL_law_339 : decode cL_law 339 = .ok (.istore 7, 2) := by decide +kernel
theorem dL_law_341 : decode cL_law 341 = .ok (.aload_n 2, 1) := by decide +kernel
theorem dL_law_342 : decode cL_law 342 = .ok (.invokevirtual 145, 3) := by decide +kernel
theorem dL_law_345 : decode cL_law 345 = .ok (.iload 6, 2) := by decide +kernel
theorem dL_law_347 : decode cL_law 347 = .ok (.if_icmp .eq 5, 3) := by decide +kernel
theorem dL_law_352 : decode cL_law 352 = .ok (.iload 6, 2) := by decide +kernel
theorem dL_law_354 : decode cL_law 354 = .ok (.ifCond .ne 15, 3) := by decide +kernel
theorem dL_law_357 : decode cL_law 357 = .ok (.aload_n 3, 1) := by decide +kernel
theorem dL_law_358 : decode cL_law 358 = .ok (.iconst 0, 1) := by decide +kernel
theorem dL_law_359 : decode cL_law 359 = .ok (.laload, 1) := by decide +kernel
theorem dL_law_360 : decode cL_law 360 = .ok (.iload 7, 2) := by decide +kernel
theorem dL_law_362 : decode cL_law 362 = .ok (.i2l, 1) := by decide +kernel
theorem dL_law_363 : decode cL_law 363 = .ok (.lcmp, 1) := by decide +kernel
theorem dL_law_364 : decode cL_law 364 = .ok (.ifCond .eq 5, 3) := by decide +kernel
theorem dL_law_369 : decode cL_law 369 = .ok (.goto 2421, 3) := by decide +kernel
theorem dL_law_372 : decode cL_law 372 = .ok (.aload_n 1, 1) := by decide +kernel
theorem dL_law_373 : decode cL_law 373 = .ok (.invokevirtual 152, 3) := by decide +kernel
theorem dL_law_376 : decode cL_law 376 = .ok (.aload_n 2, 1) := by decide +kernel
theorem dL_law_377 : decode cL_law 377 = .ok (.invokevirtual 155, 3) := by decide +kernel
theorem dL_law_380 : decode cL_law 380 = .ok (.if_icmp .eq 2410, 3) := by decide +kernel
theorem dL_law_385 : decode cL_law 385 = .ok (.aload_n 1, 1) := by decide +kernel
theorem dL_law_386 : decode cL_law 386 = .ok (.invokevirtual 156, 3) := by decide +kernel
theorem dL_law_389 : decode cL_law 389 = .ok (.aload_n 2, 1) := by decide +kernel
theorem dL_law_390 : decode cL_law 390 = .ok (.invokevirtual 159, 3) := by decide +kernel
theorem dL_law_393 : decode cL_law 393 = .ok (.if_icmp .eq 2397, 3) := by decide +kernel
theorem dL_law_398 : decode cL_law 398 = .ok (.aload_n 1, 1) := by decide +kernel
theorem dL_law_399 : decode cL_law 399 = .ok (.invokevirtual 160, 3) := by decide +kernel
theorem dL_law_402 : decode cL_law 402 = .ok (.aload_n 2, 1) := by decide +kernel
theorem dL_law_403 : decode cL_law 403 = .ok (.invokevirtual 163, 3) := by decide +kernel
theorem dL_law_406 : decode cL_law 406 = .ok (.if_icmp .eq 2384, 3) := by decide +kernel
theorem dL_law_411 : decode cL_law 411 = .ok (.aload_n 1, 1) := by decide +kernel
theorem dL_law_412 : decode cL_law 412 = .ok (.aload_n 0, 1) := by decide +kernel
theorem dL_law_413 : decode cL_law 413 = .ok (.iload 5, 2) := by decide +kernel
theorem dL_law_415 : decode cL_law 415 = .ok (.iconst 1, 1) := by decide +kernel
theorem dL_law_416 : decode cL_law 416 = .ok (.iadd, 1) := by decide +kernel
theorem dL_law_417 : decode cL_law 417 = .ok (.iaload, 1) := by decide +kernel
theorem dL_law_418 : decode cL_law 418 = .ok (.aload_n 0, 1) := by decide +kernel
theorem dL_law_419 : decode cL_law 419 = .ok (.iload 5, 2) := by decide +kernel
theorem dL_law_421 : decode cL_law 421 = .ok (.iconst 2, 1) := by decide +kernel
theorem dL_law_422 : decode cL_law 422 = .ok (.iadd, 1) := by decide +kernel
theorem dL_law_423 : decode cL_law 423 = .ok (.iaload, 1) := by decide +kernel
theorem dL_law_424 : decode cL_law 424 = .ok (.invokestatic 164, 3) := by decide +kernel
theorem dL_law_427 : decode cL_law 427 = .ok (.istore 6, 2) := by decide +kernel
theorem dL_law_429 : decode cL_law 429 = .ok (.aload_n 2, 1) := by decide +kernel
theorem dL_law_430 : decode cL_law 430 = .ok (.aload_n 0, 1) := by decide +kernel
theorem dL_law_431 : decode cL_law 431 = .ok (.iload 5, 2) := by decide +kernel
theorem dL_law_433 : decode cL_law 433 = .ok (.iconst 1, 1) := by decide +kernel
theorem dL_law_434 : decode cL_law 434 = .ok (.iadd, 1) := by decide +kernel
theorem dL_law_435 : decode cL_law 435 = .ok (.iaload, 1) := by decide +kernel
theorem dL_law_436 : decode cL_law 436 = .ok (.aload_n 0, 1) := by decide +kernel
theorem dL_law_437 : decode cL_law 437 = .ok (.iload 5, 2) := by decide +kernel
theorem dL_law_439 : decode cL_law 439 = .ok (.iconst 2, 1) := by decide +kernel
theorem dL_law_440 : decode cL_law 440 = .ok (.iadd, 1) := by decide +kernel
theorem dL_law_441 : decode cL_law 441 = .ok (.iaload, 1) := by decide +kernel
theorem dL_law_442 : decode cL_law 442 = .ok (.invokevirtual 167, 3) := by decide +kernel
theorem dL_law_445 : decode cL_law 445 = .ok (.aload_n 2, 1) := by decide +kernel
theorem dL_law_446 : decode cL_law 446 = .ok (.invokevirtual 145, 3) := by decide +kernel
theorem dL_law_449 : decode cL_law 449 = .ok (.iload 6, 2) := by decide +kernel
theorem dL_law_451 : decode cL_law 451 = .ok (.if_icmp .eq 5, 3) := by decide +kernel
theorem dL_law_456 : decode cL_law 456 = .ok (.goto 2334, 3) := by decide +kernel
theorem dL_law_459 : decode cL_law 459 = .ok (.aload_n 1, 1) := by decide +kernel
theorem dL_law_460 : decode cL_law 460 = .ok (.aload_n 0, 1) := by decide +kernel
theorem dL_law_461 : decode cL_law 461 = .ok (.iload 5, 2) := by decide +kernel
theorem dL_law_463 : decode cL_law 463 = .ok (.iconst 1, 1) := by decide +kernel
theorem dL_law_464 : decode cL_law 464 = .ok (.iadd, 1) := by decide +kernel
theorem dL_law_465 : decode cL_law 465 = .ok (.iaload, 1) := by decide +kernel
theorem dL_law_466 : decode cL_law 466 = .ok (.aload_n 0, 1) := by decide +kernel
theorem dL_law_467 : decode cL_law 467 = .ok (.iload 5, 2) := by decide +kernel
theorem dL_law_469 : decode cL_law 469 = .ok (.iconst 2, 1) := by decide +kernel
theorem dL_law_470 : decode cL_law 470 = .ok (.iadd, 1) := by decide +kernel
theorem dL_law_471 : decode cL_law 471 = .ok (.iaload, 1) := by decide +kernel
theorem dL_law_472 : decode cL_law 472 = .ok (.ifCond .eq 7, 3) := by decide +kernel
theorem dL_law_475 : decode cL_law 475 = .ok (.iconst 1, 1) := by decide +kernel
theorem dL_law_476 : decode cL_law 476 = .ok (.goto 4, 3) := by decide +kernel
theorem dL_law_479 : decode cL_law 479 = .ok (.iconst 0, 1) := by decide +kernel
theorem dL_law_480 : decode cL_law 480 = .ok (.aload_n 3, 1) := by decide +kernel
theorem dL_law_481 : decode cL_law 481 = .ok (.invokestatic 168, 3) := by decide +kernel
theorem dL_law_484 : decode cL_law 484 = .ok (.istore 6, 2) := by decide +kernel
theorem dL_law_486 : decode cL_law 486 = .ok (.aload_n 2, 1) := by decide +kernel
theorem dL_law_487 : decode cL_law 487 = .ok (.aload_n 0, 1) := by decide +kernel
theorem dL_law_488 : decode cL_law 488 = .ok (.iload 5, 2) := by decide +kernel
theorem dL_law_490 : decode cL_law 490 = .ok (.iconst 1, 1) := by decide +kernel
theorem dL_law_491 : decode cL_law 491 = .ok (.iadd, 1) := by decide +kernel
theorem dL_law_492 : decode cL_law 492 = .ok (.iaload, 1) := by decide +kernel
theorem dL_law_493 : decode cL_law 493 = .ok (.aload_n 0, 1) := by decide +kernel
theorem dL_law_494 : decode cL_law 494 = .ok (.iload 5, 2) := by decide +kernel
theorem dL_law_496 : decode cL_law 496 = .ok (.iconst 2, 1) := by decide +kernel
theorem dL_law_497 : decode cL_law 497 = .ok (.iadd, 1) := by decide +kernel
theorem dL_law_498 : decode cL_law 498 = .ok (.iaload, 1) := by decide +kernel
theorem dL_law_499 : decode cL_law 499 = .ok (.ifCond .eq 7, 3) := by decide +kernel
theorem dL_law_502 : decode cL_law 502 = .ok (.iconst 1, 1) := by decide +kernel
theorem dL_law_503 : decode cL_law 503 = .ok (.goto 4, 3) := by decide +kernel
theorem dL_law_506 : decode cL_law 506 = .ok (.iconst 0, 1) := by decide +kernel
theorem dL_law_507 : decode cL_law 507 = .ok (.invokevirtual 171, 3) := by decide +kernel
theorem dL_law_510 : decode cL_law 510 = .ok (.istore 7, 2) := by decide +kernel
theorem dL_law_512 : decode cL_law 512 = .ok (.aload_n 2, 1) := by decide +kernel
theorem dL_law_513 : decode cL_law 513 = .ok (.invokevirtual 145, 3) := by decide +kernel
theorem dL_law_516 : decode cL_law 516 = .ok (.iload 6, 2) := by decide +kernel
theorem dL_law_518 : decode cL_law 518 = .ok (.if_icmp .eq 5, 3) := by decide +kernel
theorem dL_law_523 : decode cL_law 523 = .ok (.iload 6, 2) := by decide +kernel
theorem dL_law_525 : decode cL_law 525 = .ok (.ifCond .ne 22, 3) := by decide +kernel
theorem dL_law_528 : decode cL_law 528 = .ok (.aload_n 3, 1) := by decide +kernel
theorem dL_law_529 : decode cL_law 529 = .ok (.iconst 0, 1) := by decide +kernel
theorem dL_law_530 : decode cL_law 530 = .ok (.laload, 1) := by decide +kernel
theorem dL_law_531 : decode cL_law 531 = .ok (.iload 7, 2) := by decide +kernel
theorem dL_law_533 : decode cL_law 533 = .ok (.ifCond .eq 7, 3) := by decide +kernel
theorem dL_law_536 : decode cL_law 536 = .ok (.lconst 1, 1) := by decide +kernel
theorem dL_law_537 : decode cL_law 537 = .ok (.goto 4, 3) := by decide +kernel
theorem dL_law_540 : decode cL_law 540 = .ok (.lconst 0, 1) := by decide +kernel
theorem dL_law_541 : decode cL_law 541 = .ok (.lcmp, 1) := by decide +kernel
theorem dL_law_542 : decode cL_law 542 = .ok (.ifCond .eq 5, 3) := by decide +kernel
theorem dL_law_547 : decode cL_law 547 = .ok (.goto 2243, 3) := by decide +kernel
theorem dL_law_550 : decode cL_law 550 = .ok (.aload_n 1, 1) := by decide +kernel
theorem dL_law_551 : decode cL_law 551 = .ok (.aload_n 0, 1) := by decide +kernel
theorem dL_law_552 : decode cL_law 552 = .ok (.iload 5, 2) := by decide +kernel
theorem dL_law_554 : decode cL_law 554 = .ok (.iconst 1, 1) := by decide +kernel
theorem dL_law_555 : decode cL_law 555 = .ok (.iadd, 1) := by decide +kernel
theorem dL_law_556 : decode cL_law 556 = .ok (.iaload, 1) := by decide +kernel
theorem dL_law_557 : decode cL_law 557 = .ok (.aload_n 0, 1) := by decide +kernel
theorem dL_law_558 : decode cL_law 558 = .ok (.iload 5, 2) := by decide +kernel
theorem dL_law_560 : decode cL_law 560 = .ok (.iconst 2, 1) := by decide +kernel
theorem dL_law_561 : decode cL_law 561 = .ok (.iadd, 1) := by decide +kernel
theorem dL_law_562 : decode cL_law 562 = .ok (.iaload, 1) := by decide +kernel
theorem dL_law_563 : decode cL_law 563 = .ok (.aload_n 3, 1) := by decide +kernel
theorem dL_law_564 : decode cL_law 564 = .ok (.invokestatic 172, 3) := by decide +kernel
theorem dL_law_567 : decode cL_law 567 = .ok (.istore 6, 2) := by decide +kernel
theorem dL_law_569 : decode cL_law 569 = .ok (.aload_n 2, 1) := by decide +kernel
theorem dL_law_570 : decode cL_law 570 = .ok (.aload_n 0, 1) := by decide +kernel
theorem dL_law_571 : decode cL_law 571 = .ok (.iload 5, 2) := by decide +kernel
theorem dL_law_573 : decode cL_law 573 = .ok (.iconst 1, 1) := by decide +kernel
theorem dL_law_574 : decode cL_law 574 = .ok (.iadd, 1) := by decide +kernel
theorem dL_law_575 : decode cL_law 575 = .ok (.iaload, 1) := by decide +kernel
theorem dL_law_576 : decode cL_law 576 = .ok (.aload_n 0, 1) := by decide +kernel
theorem dL_law_577 : decode cL_law 577 = .ok (.iload 5, 2) := by decide +kernel
theorem dL_law_579 : decode cL_law 579 = .ok (.iconst 2, 1) := by decide +kernel
theorem dL_law_580 : decode cL_law 580 = .ok (.iadd, 1) := by decide +kernel
theorem dL_law_581 : decode cL_law 581 = .ok (.iaload, 1) := by decide +kernel
theorem dL_law_582 : decode cL_law 582 = .ok (.invokevirtual 175, 3) := by decide +kernel
theorem dL_law_585 : decode cL_law 585 = .ok (.istore 7, 2) := by decide +kernel
theorem dL_law_587 : decode cL_law 587 = .ok (.aload_n 2, 1) := by decide +kernel
theorem dL_law_588 : decode cL_law 588 = .ok (.invokevirtual 145, 3) := by decide +kernel
theorem dL_law_591 : decode cL_law 591 = .ok (.iload 6, 2) := by decide +kernel
theorem dL_law_593 : decode cL_law 593 = .ok (.if_icmp .eq 5, 3) := by decide +kernel
theorem dL_law_598 : decode cL_law 598 = .ok (.iload 6, 2) := by decide +kernel
theorem dL_law_600 : decode cL_law 600 = .ok (.ifCond .ne 15, 3) := by decide +kernel
theorem dL_law_603 : decode cL_law 603 = .ok (.aload_n 3, 1) := by decide +kernel
theorem dL_law_604 : decode cL_law 604 = .ok (.iconst 0, 1) := by decide +kernel
theorem dL_law_605 : decode cL_law 605 = .ok (.laload, 1) := by decide +kernel
theorem dL_law_606 : decode cL_law 606 = .ok (.iload 7, 2) := by decide +kernel
theorem dL_law_608 : decode cL_law 608 = .ok (.i2l, 1) := by decide +kernel
theorem dL_law_609 : decode cL_law 609 = .ok (.lcmp, 1) := by decide +kernel
theorem dL_law_610 : decode cL_law 610 = .ok (.ifCond .eq 5, 3) := by decide +kernel
theorem dL_law_615 : decode cL_law 615 = .ok (.goto 2175, 3) := by decide +kernel
theorem dL_law_618 : decode cL_law 618 = .ok (.aload_n 1, 1) := by decide +kernel
theorem dL_law_619 : decode cL_law 619 = .ok (.aload_n 0, 1) := by decide +kernel
theorem dL_law_620 : decode cL_law 620 = .ok (.iload 5, 2) := by decide +kernel
theorem dL_law_622 : decode cL_law 622 = .ok (.iconst 1, 1) := by decide +kernel
theorem dL_law_623 : decode cL_law 623 = .ok (.iadd, 1) := by decide +kernel
theorem dL_law_624 : decode cL_law 624 = .ok (.iaload, 1) := by decide +kernel
theorem dL_law_625 : decode cL_law 625 = .ok (.aload_n 3, 1) := by decide +kernel
theorem dL_law_626 : decode cL_law 626 = .ok (.invokestatic 176, 3) := by decide +kernel
theorem dL_law_629 : decode cL_law 629 = .ok (.istore 6, 2) := by decide +kernel
theorem dL_law_631 : decode cL_law 631 = .ok (.aload_n 2, 1) := by decide +kernel
theorem dL_law_632 : decode cL_law 632 = .ok (.aload_n 0, 1) := by decide +kernel
theorem dL_law_633 : decode cL_law 633 = .ok (.iload 5, 2) := by decide +kernel
theorem dL_law_635 : decode cL_law 635 = .ok (.iconst 1, 1) := by decide +kernel
theorem dL_law_636 : decode cL_law 636 = .ok (.iadd, 1) := by decide +kernel
theorem dL_law_637 : decode cL_law 637 = .ok (.iaload, 1) := by decide +kernel
theorem dL_law_638 : decode cL_law 638 = .ok (.invokevirtual 178, 3) := by decide +kernel
theorem dL_law_641 : decode cL_law 641 = .ok (.istore 7, 2) := by decide +kernel
theorem dL_law_643 : decode cL_law 643 = .ok (.aload_n 2, 1) := by decide +kernel
theorem dL_law_644 : decode cL_law 644 = .ok (.invokevirtual 145, 3) := by decide +kernel
theorem dL_law_647 : decode cL_law 647 = .ok (.iload 6, 2) := by decide +kernel
theorem dL_law_649 : decode cL_law 649 = .ok (.if_icmp .eq 5, 3) := by decide +kernel
theorem dL_law_654 : decode cL_law 654 = .ok (.iload 6, 2) := by decide +kernel
theorem dL_law_656 : decode cL_law 656 = .ok (.ifCond .ne 15, 3) := by decide +kernel
theorem dL_law_659 : decode cL_law 659 = .ok (.aload_n 3, 1) := by decide +kernel
theorem dL_law_660 : decode cL_law 660 = .ok (.iconst 0, 1) := by decide +kernel
theorem dL_law_661 : decode cL_law 661 = .ok (.laload, 1) := by decide +kernel
theorem dL_law_662 : decode cL_law 662 = .ok (.iload 7, 2) := by decide +kernel
theorem dL_law_664 : decode cL_law 664 = .ok (.i2l, 1) := by decide +kernel
theorem dL_law_665 : decode cL_law 665 = .ok (.lcmp, 1) := by decide +kernel
theorem dL_law_666 : decode cL_law 666 = .ok (.ifCond .eq 5, 3) := by decide +kernel
theorem dL_law_671 : decode cL_law 671 = .ok (.goto 2119, 3) := by decide +kernel
theorem dL_law_674 : decode cL_law 674 = .ok (.aload_n 1, 1) := by decide +kernel
theorem dL_law_675 : decode cL_law 675 = .ok (.aload_n 0, 1) := by decide +kernel
theorem dL_law_676 : decode cL_law 676 = .ok (.iload 5, 2) := by decide +kernel
theorem dL_law_678 : decode cL_law 678 = .ok (.iconst 1, 1) := by decide +kernel
theorem dL_law_679 : decode cL_law 679 = .ok (.iadd, 1) := by decide +kernel
theorem dL_law_680 : decode cL_law 680 = .ok (.iaload, 1) := by decide +kernel
theorem dL_law_681 : decode cL_law 681 = .ok (.aload_n 0, 1) := by decide +kernel
theorem dL_law_682 : decode cL_law 682 = .ok (.iload 5, 2) := by decide +kernel
theorem dL_law_684 : decode cL_law 684 = .ok (.iconst 2, 1) := by decide +kernel
theorem dL_law_685 : decode cL_law 685 = .ok (.iadd, 1) := by decide +kernel
theorem dL_law_686 : decode cL_law 686 = .ok (.iaload, 1) := by decide +kernel
theorem dL_law_687 : decode cL_law 687 = .ok (.aload_n 3, 1) := by decide +kernel
theorem dL_law_688 : decode cL_law 688 = .ok (.invokestatic 179, 3) := by decide +kernel
theorem dL_law_691 : decode cL_law 691 = .ok (.istore 6, 2) := by decide +kernel
theorem dL_law_693 : decode cL_law 693 = .ok (.aload_n 2, 1) := by decide +kernel
theorem dL_law_694 : decode cL_law 694 = .ok (.aload_n 0, 1) := by decide +kernel
theorem dL_law_695 : decode cL_law 695 = .ok (.iload 5, 2) := by decide +kernel
theorem dL_law_697 : decode cL_law 697 = .ok (.iconst 1, 1) := by decide +kernel
theorem dL_law_698 : decode cL_law 698 = .ok (.iadd, 1) := by decide +kernel
theorem dL_law_699 : decode cL_law 699 = .ok (.iaload, 1) := by decide +kernel
theorem dL_law_700 : decode cL_law 700 = .ok (.aload_n 0, 1) := by decide +kernel
theorem dL_law_701 : decode cL_law 701 = .ok (.iload 5, 2) := by decide +kernel
theorem dL_law_703 : decode cL_law 703 = .ok (.iconst 2, 1) := by decide +kernel
theorem dL_law_704 : decode cL_law 704 = .ok (.iadd, 1) := by decide +kernel
theorem dL_law_705 : decode cL_law 705 = .ok (.iaload, 1) := by decide +kernel
theorem dL_law_706 : decode cL_law 706 = .ok (.invokevirtual 181, 3) := by decide +kernel
theorem dL_law_709 : decode cL_law 709 = .ok (.istore 7, 2) := by decide +kernel
theorem dL_law_711 : decode cL_law 711 = .ok (.aload_n 2, 1) := by decide +kernel
theorem dL_law_712 : decode cL_law 712 = .ok (.invokevirtual 145, 3) := by decide +kernel
theorem dL_law_715 : decode cL_law 715 = .ok (.iload 6, 2) := by decide +kernel
theorem dL_law_717 : decode cL_law 717 = .ok (.if_icmp .eq 5, 3) := by decide +kernel
theorem dL_law_722 : decode cL_law 722 = .ok (.iload 6, 2) := by decide +kernel
theorem dL_law_724 : decode cL_law 724 = .ok (.ifCond .ne 15, 3) := by decide +kernel
theorem dL_law_727 : decode cL_law 727 = .ok (.aload_n 3, 1) := by decide +kernel
theorem dL_law_728 : decode cL_law 728 = .ok (.iconst 0, 1) := by decide +kernel
theorem dL_law_729 : decode cL_law 729 = .ok (.laload, 1) := by decide +kernel
theorem dL_law_730 : decode cL_law 730 = .ok (.iload 7, 2) := by decide +kernel
theorem dL_law_732 : decode cL_law 732 = .ok (.i2l, 1) := by decide +kernel
theorem dL_law_733 : decode cL_law 733 = .ok (.lcmp, 1) := by decide +kernel
theorem dL_law_734 : decode cL_law 734 = .ok (.ifCond .eq 5, 3) := by decide +kernel
theorem dL_law_739 : decode cL_law 739 = .ok (.goto 2051, 3) := by decide +kernel
theorem tl_L_139 : Cond.methodLink RL 139 yL_appendText ∈ TMW := tm_in 815 (by decide +kernel) (by decide +kernel)
theorem tst_L_appendText : Cond.static yL_appendText ∈ TMW := tm_in 816 (by decide +kernel) (by decide +kernel)
theorem tn_L : Cond.initialized RL ∈ TMW := tm_in 109 (by decide +kernel) (by decide +kernel)
theorem tc_L_appendText : Cond.codeWith yL_appendText cL_appendText 4 (some .int) [(0, 9, 12, 13)] ∈ TMW := tm_in 817 (by decide +kernel) (by decide +kernel)
theorem tl_L_144 : Cond.methodLink RL 144 yX8_appendText ∈ TMW := tm_in 2077 (by decide +kernel) (by decide +kernel)
theorem ti_X8_appendText : Cond.instanceMethod yX8_appendText ∈ TMW := tm_in 2078 (by decide +kernel) (by decide +kernel)
theorem ts_X8_appendText : Cond.selects RX8 yX8_appendText yX8_appendText ∈ TMW := tm_in 2079 (by decide +kernel) (by decide +kernel)
theorem tc_X8_appendText : Cond.code yX8_appendText cX8_appendText 3 (some .int) ∈ TMW := tm_in 2080 (by decide +kernel) (by decide +kernel)
theorem tl_L_145 : Cond.methodLink RL 145 yX8_thrown ∈ TMW := tm_in 1637 (by decide +kernel) (by decide +kernel)
theorem ti_X8_thrown : Cond.instanceMethod yX8_thrown ∈ TMW := tm_in 1638 (by decide +kernel) (by decide +kernel)
theorem ts_X8_thrown : Cond.selects RX8 yX8_thrown yX8_thrown ∈ TMW := tm_in 1639 (by decide +kernel) (by decide +kernel)
theorem tc_X8_thrown : Cond.code yX8_thrown cX8_thrown 1 (some .int) ∈ TMW := tm_in 1640 (by decide +kernel) (by decide +kernel)
theorem tl_L_149 : Cond.methodLink RL 149 yL_truncateText ∈ TMW := tm_in 895 (by decide +kernel) (by decide +kernel)
theorem tst_L_truncateText : Cond.static yL_truncateText ∈ TMW := tm_in 896 (by decide +kernel) (by decide +kernel)
theorem tc_L_truncateText : Cond.codeWith yL_truncateText cL_truncateText 4 (some .int) [(0, 9, 12, 18)] ∈ TMW := tm_in 897 (by decide +kernel) (by decide +kernel)
theorem tl_L_151 : Cond.methodLink RL 151 yX8_truncateText ∈ TMW := tm_in 2081 (by decide +kernel) (by decide +kernel)
theorem ti_X8_truncateText : Cond.instanceMethod yX8_truncateText ∈ TMW := tm_in 2082 (by decide +kernel) (by decide +kernel)
theorem ts_X8_truncateText : Cond.selects RX8 yX8_truncateText yX8_truncateText ∈ TMW := tm_in 2083 (by decide +kernel) (by decide +kernel)
theorem tc_X8_truncateText : Cond.code yX8_truncateText cX8_truncateText 2 (some .int) ∈ TMW := tm_in 2084 (by decide +kernel) (by decide +kernel)
theorem tl_L_152 : Cond.methodLink RL 152 yX7_runScript ∈ TMW := tm_in 381 (by decide +kernel) (by decide +kernel)
theorem ti_X7_runScript : Cond.instanceMethod yX7_runScript ∈ TMW := tm_in 382 (by decide +kernel) (by decide +kernel)
theorem ts_X7_runScript : Cond.selects RX7 yX7_runScript yX7_runScript ∈ TMW := tm_in 383 (by decide +kernel) (by decide +kernel)
theorem tc_X7_runScript : Cond.code yX7_runScript cX7_runScript 5 (some .int) ∈ TMW := tm_in 384 (by decide +kernel) (by decide +kernel)
theorem tl_L_155 : Cond.methodLink RL 155 yX8_runScript ∈ TMW := tm_in 2085 (by decide +kernel) (by decide +kernel)
theorem ti_X8_runScript : Cond.instanceMethod yX8_runScript ∈ TMW := tm_in 2086 (by decide +kernel) (by decide +kernel)
theorem ts_X8_runScript : Cond.selects RX8 yX8_runScript yX8_runScript ∈ TMW := tm_in 2087 (by decide +kernel) (by decide +kernel)
theorem tc_X8_runScript : Cond.code yX8_runScript cX8_runScript 2 (some .int) ∈ TMW := tm_in 2088 (by decide +kernel) (by decide +kernel)
theorem tl_L_156 : Cond.methodLink RL 156 yX7_errorCode ∈ TMW := tm_in 734 (by decide +kernel) (by decide +kernel)
theorem ti_X7_errorCode : Cond.instanceMethod yX7_errorCode ∈ TMW := tm_in 735 (by decide +kernel) (by decide +kernel)
theorem ts_X7_errorCode : Cond.selects RX7 yX7_errorCode yX7_errorCode ∈ TMW := tm_in 736 (by decide +kernel) (by decide +kernel)
theorem tc_X7_errorCode : Cond.code yX7_errorCode cX7_errorCode 1 (some .int) ∈ TMW := tm_in 737 (by decide +kernel) (by decide +kernel)
theorem tl_L_159 : Cond.methodLink RL 159 yX8_errorCode ∈ TMW := tm_in 2134 (by decide +kernel) (by decide +kernel)
theorem ti_X8_errorCode : Cond.instanceMethod yX8_errorCode ∈ TMW := tm_in 2135 (by decide +kernel) (by decide +kernel)
theorem ts_X8_errorCode : Cond.selects RX8 yX8_errorCode yX8_errorCode ∈ TMW := tm_in 2136 (by decide +kernel) (by decide +kernel)
theorem tc_X8_errorCode : Cond.code yX8_errorCode cX8_errorCode 1 (some .int) ∈ TMW := tm_in 2137 (by decide +kernel) (by decide +kernel)
theorem tl_L_160 : Cond.methodLink RL 160 yX7_errorPosition ∈ TMW := tm_in 738 (by decide +kernel) (by decide +kernel)
theorem ti_X7_errorPosition : Cond.instanceMethod yX7_errorPosition ∈ TMW := tm_in 739 (by decide +kernel) (by decide +kernel)
theorem ts_X7_errorPosition : Cond.selects RX7 yX7_errorPosition yX7_errorPosition ∈ TMW := tm_in 740 (by decide +kernel) (by decide +kernel)
theorem tc_X7_errorPosition : Cond.code yX7_errorPosition cX7_errorPosition 1 (some .int) ∈ TMW := tm_in 741 (by decide +kernel) (by decide +kernel)
theorem tl_L_163 : Cond.methodLink RL 163 yX8_errorPosition ∈ TMW := tm_in 2138 (by decide +kernel) (by decide +kernel)
theorem ti_X8_errorPosition : Cond.instanceMethod yX8_errorPosition ∈ TMW := tm_in 2139 (by decide +kernel) (by decide +kernel)
theorem ts_X8_errorPosition : Cond.selects RX8 yX8_errorPosition yX8_errorPosition ∈ TMW := tm_in 2140 (by decide +kernel) (by decide +kernel)
theorem tc_X8_errorPosition : Cond.code yX8_errorPosition cX8_errorPosition 1 (some .int) ∈ TMW := tm_in 2141 (by decide +kernel) (by decide +kernel)
theorem tl_L_164 : Cond.methodLink RL 164 yL_setForm ∈ TMW := tm_in 922 (by decide +kernel) (by decide +kernel)
theorem tst_L_setForm : Cond.static yL_setForm ∈ TMW := tm_in 923 (by decide +kernel) (by decide +kernel)
theorem tc_L_setForm : Cond.codeWith yL_setForm cL_setForm 4 (some .int) [(0, 6, 9, 18), (0, 6, 12, 13)] ∈ TMW := tm_in 924 (by decide +kernel) (by decide +kernel)
theorem tl_L_167 : Cond.methodLink RL 167 yX8_setForm ∈ TMW := tm_in 1641 (by decide +kernel) (by decide +kernel)
theorem ti_X8_setForm : Cond.instanceMethod yX8_setForm ∈ TMW := tm_in 1642 (by decide +kernel) (by decide +kernel)
theorem ts_X8_setForm : Cond.selects RX8 yX8_setForm yX8_setForm ∈ TMW := tm_in 1643 (by decide +kernel) (by decide +kernel)
theorem tc_X8_setForm : Cond.code yX8_setForm cX8_setForm 3 none ∈ TMW := tm_in 1644 (by decide +kernel) (by decide +kernel)
theorem tl_L_168 : Cond.methodLink RL 168 yL_setUp ∈ TMW := tm_in 932 (by decide +kernel) (by decide +kernel)
theorem tst_L_setUp : Cond.static yL_setUp ∈ TMW := tm_in 933 (by decide +kernel) (by decide +kernel)
theorem tc_L_setUp : Cond.codeWith yL_setUp cL_setUp 5 (some .int) [(0, 17, 20, 28)] ∈ TMW := tm_in 934 (by decide +kernel) (by decide +kernel)
theorem tl_L_171 : Cond.methodLink RL 171 yX8_setUp ∈ TMW := tm_in 1658 (by decide +kernel) (by decide +kernel)
theorem ti_X8_setUp : Cond.instanceMethod yX8_setUp ∈ TMW := tm_in 1659 (by decide +kernel) (by decide +kernel)
theorem ts_X8_setUp : Cond.selects RX8 yX8_setUp yX8_setUp ∈ TMW := tm_in 1660 (by decide +kernel) (by decide +kernel)
theorem tc_X8_setUp : Cond.code yX8_setUp cX8_setUp 4 (some .boolean) ∈ TMW := tm_in 1661 (by decide +kernel) (by decide +kernel)
theorem tl_L_172 : Cond.methodLink RL 172 yL_damage ∈ TMW := tm_in 962 (by decide +kernel) (by decide +kernel)
theorem tst_L_damage : Cond.static yL_damage ∈ TMW := tm_in 963 (by decide +kernel) (by decide +kernel)
theorem tc_L_damage : Cond.codeWith yL_damage cL_damage 5 (some .int) [(0, 10, 13, 28), (0, 10, 17, 18), (0, 10, 21, 13)] ∈ TMW := tm_in 964 (by decide +kernel) (by decide +kernel)
theorem tl_L_175 : Cond.methodLink RL 175 yX8_damage ∈ TMW := tm_in 1669 (by decide +kernel) (by decide +kernel)
theorem ti_X8_damage : Cond.instanceMethod yX8_damage ∈ TMW := tm_in 1670 (by decide +kernel) (by decide +kernel)
theorem ts_X8_damage : Cond.selects RX8 yX8_damage yX8_damage ∈ TMW := tm_in 1671 (by decide +kernel) (by decide +kernel)
theorem tc_X8_damage : Cond.code yX8_damage cX8_damage 4 (some .int) ∈ TMW := tm_in 1672 (by decide +kernel) (by decide +kernel)
theorem tl_L_176 : Cond.methodLink RL 176 yL_count ∈ TMW := tm_in 972 (by decide +kernel) (by decide +kernel)
theorem tst_L_count : Cond.static yL_count ∈ TMW := tm_in 973 (by decide +kernel) (by decide +kernel)
theorem tc_L_count : Cond.codeWith yL_count cL_count 4 (some .int) [(0, 9, 12, 18)] ∈ TMW := tm_in 974 (by decide +kernel) (by decide +kernel)
theorem tl_L_178 : Cond.methodLink RL 178 yX8_count ∈ TMW := tm_in 1676 (by decide +kernel) (by decide +kernel)
theorem ti_X8_count : Cond.instanceMethod yX8_count ∈ TMW := tm_in 1677 (by decide +kernel) (by decide +kernel)
theorem ts_X8_count : Cond.selects RX8 yX8_count yX8_count ∈ TMW := tm_in 1678 (by decide +kernel) (by decide +kernel)
theorem tc_X8_count : Cond.code yX8_count cX8_count 2 (some .int) ∈ TMW := tm_in 1679 (by decide +kernel) (by decide +kernel)
theorem tl_L_179 : Cond.methodLink RL 179 yL_stored ∈ TMW := tm_in 990 (by decide +kernel) (by decide +kernel)
theorem tst_L_stored : Cond.static yL_stored ∈ TMW := tm_in 991 (by decide +kernel) (by decide +kernel)
theorem tc_L_stored : Cond.codeWith yL_stored cL_stored 5 (some .int) [(0, 10, 13, 28)] ∈ TMW := tm_in 992 (by decide +kernel) (by decide +kernel)
theorem tl_L_181 : Cond.methodLink RL 181 yX8_stored ∈ TMW := tm_in 1691 (by decide +kernel) (by decide +kernel)
theorem ti_X8_stored : Cond.instanceMethod yX8_stored ∈ TMW := tm_in 1692 (by decide +kernel) (by decide +kernel)
theorem ts_X8_stored : Cond.selects RX8 yX8_stored yX8_stored ∈ TMW := tm_in 1693 (by decide +kernel) (by decide +kernel)
theorem tc_X8_stored : Cond.code yX8_stored cX8_stored 3 (some .int) ∈ TMW := tm_in 1694 (by decide +kernel) (by decide +kernel)
-- ----- case 0: appendText
set_option maxRecDepth 100000 in
theorem law_case_0 {p : Program} {l : Launch} {e : Env} {s : State} {m : MethodId} {args : Array Value} {below : List Frame} {meth : Method} {c : Code} {A : Nat → Prop} {D : va_G} {cy : Nat → ClassId} {ad ar : Nat → Nat} {o1 o2 : Nat} {cL cD : ClassId} {adK adV adE : Nat → Nat} {tC : Nat} {Q : State → Prop} {rt : Option FieldType} {cells slots b i L : Nat} {xs : Nat → Int32} {Rel Rel2 : tmM → List Int32 → tmM → Prop} (hl : l.stackTraces = false) (hp : tP_appendText Rel Rel2) (hX : va_X b L xs s s.heap) (hbl : b < s.heap.size) (hbA : ¬ A b) (hi : i + 5 ≤ L ∧ L ≤ 2560) (hE : tmSc adK adV adE tC A s s.heap) (hTh : tmTh A s s.heap) (hF : tlF D cy cL cD s) (hcs : cells + 64 ≤ 601024 ∧ slots + 8000 ≤ 7293034) {κ b0 : Nat} {u v w : tmM} {bs : List Int32} {xo : Int64} {xd : UInt64} (C0 : tmC p s m args meth c cL_law 10 rt RL TMW tm_NWC D cy tm_s0 tm_a0 0 (tlW cy ad ar o1 o2 cL cD κ b0 u v w xo xd) A) (hT : tmTx κ u bs) (hR : Rel v bs w) (cont : ∀ (κ b0 : Nat) (u v w : tmM) (bs : List Int32) (xo : Int64) (xd : UInt64), tmC p s m args meth c cL_law 10 rt RL TMW tm_NWC D cy tm_s0 tm_a0 0 (tlW cy ad ar o1 o2 cL cD κ b0 u v w xo xd) A → tmTx κ u bs → Rel2 v bs w → tmG p l e room_1 s m args below meth c (cells + 64) (slots + 8000) Q 10 D cy tm_s0 tm_a0 0 (tlW cy ad ar o1 o2 cL cD κ b0 u v w xo xd) A () 2790 [(0, .ref b), (1, .ref (ad 247)), (2, .ref (ar 0)), (3, .ref o1), (4, .ref o2), (5, .int (nI i))] [] tm_v0 (some ())) : tmG p l e room_1 s m args below meth c (cells) (slots) Q 10 D cy tm_s0 tm_a0 0 (tlW cy ad ar o1 o2 cL cD κ b0 u v w xo xd) A () 260 [(0, .ref b), (1, .ref (ad 247)), (2, .ref (ar 0)), (3, .ref o1), (4, .ref o2), (5, .int (nI i))] [] tm_v0 (some ()) := by
  obtain ⟨k, xo', xd', v', bs', r, w1, w2, ho, hr, ht, heq, hR'⟩ := hp (xs (i + 1)) v bs w xo xd hR
  refine tg_aload_n 1 C0 dL_law_260 rfl rfl ?_
  refine tg_aload_n 0 C0 dL_law_261 rfl rfl ?_
  refine tg_iload 5 C0 dL_law_262 rfl ?_
  refine tg_iconst (x := nI 1) C0 dL_law_264 (by decide) ?_
  refine tg_iadd C0 dL_law_265 ?_
  rw [tl_add i 1]
  refine tl_sld C0 hX hbl hbA (tl_idx (by omega) hi.2) dL_law_266 ?_
  rw [nI_clamp (show i + 1 < 2147483648 by omega)]
  refine tg_aload_n 3 C0 dL_law_267 rfl rfl ?_
  refine tl_callS (st := []) (st0 := _) (xo' := xo') (xd' := xd') (v' := v') (bs' := bs') 3 C0 hE hTh hF hT dL_law_268 (cL_c_appendText l hl (xs (i + 1)) v bs) ho rfl (tl_gS2 tl_L_139 tst_L_appendText tn_L tc_L_appendText) rfl rfl rfl rfl (by decide +kernel) ⟨Nat.le_of_ble_eq_true rfl, Nat.le_of_ble_eq_true rfl⟩ (Nat.le_of_ble_eq_true rfl) ⟨by show _ ≤ 601024; omega, by show _ ≤ 7293034; omega⟩ (fun κ b0 u hT C0 => ?_)
  refine tg_istore [(6, .int k), (0, .ref b), (1, .ref (ad 247)), (2, .ref (ar 0)), (3, .ref o1), (4, .ref o2), (5, .int (nI i))] C0 dL_law_271 (by decide) rfl ?_
  refine tg_aload_n 3 C0 dL_law_273 rfl rfl ?_
  refine tg_aload_n 1 C0 dL_law_274 rfl rfl ?_
  refine tg_iload 6 C0 dL_law_275 rfl ?_
  refine tg_iconst (x := nI 1) C0 dL_law_277 (by decide) ?_
  refine tg_iadd C0 dL_law_278 ?_
  rw [tl_add i 1]
  refine tl_sld C0 hX hbl hbA (tl_idx (by omega) hi.2) dL_law_279 ?_
  rw [nI_clamp (show i + 1 < 2147483648 by omega)]
  refine tl_mi (X' := tlW cy ad ar o1 o2 cL cD κ b0 u v' w1 xo' xd') (NW1 := tm_NWR) (pre := (tm_w cy tm_shC ad 256 v' ++ tmXB cy (ad 256) κ b0 u)) (suf := tlO o1 o2 cL cD xo' xd') (sh := tm_shR) (n := 13) (ad := ar) (As := [.int (xs (i + 1))]) (fs := [none, some 1, some 2, none, some 3, some 4, some 5, none, none, none, none, none, some 6, none, some 7, some 8, none, none, none, none, none, none, none, some 9, none, some 10, some 11, some 12]) 0 1 C0 rfl rfl (fun _ _ _ h => by cases h) rfl dL_law_280 (c_X8_appendText l (xs (i + 1)) _) hr rfl rfl (by decide) rfl rfl (tm_gV tl_L_144 ti_X8_appendText ts_X8_appendText tn_X8 tc_X8_appendText) rfl rfl rfl rfl (by decide +kernel) ⟨Nat.le_of_ble_eq_true rfl, Nat.le_of_ble_eq_true rfl⟩ (Nat.le_of_ble_eq_true rfl) ⟨by show _ ≤ 601024; omega, by show _ ≤ 7293034; omega⟩ (fun C0 => ?_)
  refine tg_istore [(7, .int r), (6, .int k), (0, .ref b), (1, .ref (ad 247)), (2, .ref (ar 0)), (3, .ref o1), (4, .ref o2), (5, .int (nI i))] C0 dL_law_283 (by decide) rfl ?_
  refine tg_aload_n 4 C0 dL_law_285 rfl rfl ?_
  refine tl_mi (X' := tlW cy ad ar o1 o2 cL cD κ b0 u v' w2 xo' xd') (NW1 := tm_NWR) (pre := (tm_w cy tm_shC ad 256 v' ++ tmXB cy (ad 256) κ b0 u)) (suf := tlO o1 o2 cL cD xo' xd') (sh := tm_shR) (n := 13) (ad := ar) (As := []) (fs := [none, some 1, some 2, none, some 3, some 4, some 5, none, none, none, none, none, some 6, none, some 7, some 8, none, none, none, none, none, none, none, some 9, none, some 10, some 11, some 12]) 0 0 C0 rfl rfl (fun _ _ _ h => by cases h) rfl dL_law_286 (c_X8_thrown l _) ht rfl rfl (by decide) rfl rfl (tm_gV tl_L_145 ti_X8_thrown ts_X8_thrown tn_X8 tc_X8_thrown) rfl rfl rfl rfl (by decide +kernel) ⟨Nat.le_of_ble_eq_true rfl, Nat.le_of_ble_eq_true rfl⟩ (Nat.le_of_ble_eq_true rfl) ⟨by show _ ≤ 601024; omega, by show _ ≤ 7293034; omega⟩ (fun C0 => ?_)
  refine tg_iload 1 C0 dL_law_289 rfl ?_
  refine tg_eq (r := if k = k then some () else none) (by rw [if_pos rfl]) ?_
  refine tg_icmp_eq 296 C0 dL_law_291 (by decide) (fun _ => ?_) (fun q => absurd rfl q)
  refine tg_iload 1 C0 dL_law_296 rfl ?_
  refine tg_eq (r := if k = 0 then some () else some ()) (by split <;> rfl) ?_
  refine tg_if_ne 313 C0 dL_law_298 (by decide) (fun _ => ?_) (fun hk => ?_)
  · refine tg_goto 2790 C0 dL_law_313 (by decide) ?_
    refine tg_sub (lv' := [(0, .ref b), (1, .ref (ad 247)), (2, .ref (ar 0)), (3, .ref o1), (4, .ref o2), (5, .int (nI i))]) [2, 3, 4, 5, 6, 7] rfl ?_
    exact tl_widen (by omega) (by omega) (cont _ _ _ _ _ _ _ _ C0 hT hR')
  refine tg_aload_n 5 C0 dL_law_301 rfl rfl ?_
  refine tg_iconst (x := 0) C0 dL_law_302 (by decide) ?_
  refine tl_lald C0 hF dL_law_303 ?_
  refine tg_iload 0 C0 dL_law_304 rfl ?_
  refine tl_i2l C0 dL_law_306 ?_
  refine tl_lcmp (heq hk) C0 dL_law_307 ?_
  refine tg_eq (r := if (0 : Int32) = 0 then some () else none) (by rw [if_pos rfl]) ?_
  refine tg_if_eq 313 C0 dL_law_308 (by decide) (fun _ => ?_) (fun q => absurd rfl q)
  refine tg_goto 2790 C0 dL_law_313 (by decide) ?_
  refine tg_sub (lv' := [(0, .ref b), (1, .ref (ad 247)), (2, .ref (ar 0)), (3, .ref o1), (4, .ref o2), (5, .int (nI i))]) [2, 3, 4, 5, 6, 7] rfl ?_
  exact tl_widen (by omega) (by omega) (cont _ _ _ _ _ _ _ _ C0 hT hR')
-- ----- case 1: truncateText
set_option maxRecDepth 100000 in
theorem law_case_1 {p : Program} {l : Launch} {e : Env} {s : State} {m : MethodId} {args : Array Value} {below : List Frame} {meth : Method} {c : Code} {A : Nat → Prop} {D : va_G} {cy : Nat → ClassId} {ad ar : Nat → Nat} {o1 o2 : Nat} {cL cD : ClassId} {adK adV adE : Nat → Nat} {tC : Nat} {Q : State → Prop} {rt : Option FieldType} {cells slots b i L : Nat} {xs : Nat → Int32} {Rel Rel2 : tmM → List Int32 → tmM → Prop} (hl : l.stackTraces = false) (hp : tP_truncateText Rel Rel2) (hX : va_X b L xs s s.heap) (hbl : b < s.heap.size) (hbA : ¬ A b) (hi : i + 5 ≤ L ∧ L ≤ 2560) (hE : tmSc adK adV adE tC A s s.heap) (hTh : tmTh A s s.heap) (hF : tlF D cy cL cD s) (hcs : cells + 64 ≤ 601024 ∧ slots + 8000 ≤ 7293034) {κ b0 : Nat} {u v w : tmM} {bs : List Int32} {xo : Int64} {xd : UInt64} (C0 : tmC p s m args meth c cL_law 10 rt RL TMW tm_NWC D cy tm_s0 tm_a0 0 (tlW cy ad ar o1 o2 cL cD κ b0 u v w xo xd) A) (hT : tmTx κ u bs) (hR : Rel v bs w) (cont : ∀ (κ b0 : Nat) (u v w : tmM) (bs : List Int32) (xo : Int64) (xd : UInt64), tmC p s m args meth c cL_law 10 rt RL TMW tm_NWC D cy tm_s0 tm_a0 0 (tlW cy ad ar o1 o2 cL cD κ b0 u v w xo xd) A → tmTx κ u bs → Rel2 v bs w → tmG p l e room_1 s m args below meth c (cells + 64) (slots + 8000) Q 10 D cy tm_s0 tm_a0 0 (tlW cy ad ar o1 o2 cL cD κ b0 u v w xo xd) A () 2790 [(0, .ref b), (1, .ref (ad 247)), (2, .ref (ar 0)), (3, .ref o1), (4, .ref o2), (5, .int (nI i))] [] tm_v0 (some ())) : tmG p l e room_1 s m args below meth c (cells) (slots) Q 10 D cy tm_s0 tm_a0 0 (tlW cy ad ar o1 o2 cL cD κ b0 u v w xo xd) A () 316 [(0, .ref b), (1, .ref (ad 247)), (2, .ref (ar 0)), (3, .ref o1), (4, .ref o2), (5, .int (nI i))] [] tm_v0 (some ()) := by
  obtain ⟨k, xo', xd', v', bs', r, w1, w2, ho, hr, ht, heq, hR'⟩ := hp (xs (i + 1)) v bs w xo xd hR
  refine tg_aload_n 1 C0 dL_law_316 rfl rfl ?_
  refine tg_aload_n 0 C0 dL_law_317 rfl rfl ?_
  refine tg_iload 5 C0 dL_law_318 rfl ?_
  refine tg_iconst (x := nI 1) C0 dL_law_320 (by decide) ?_
  refine tg_iadd C0 dL_law_321 ?_
  rw [tl_add i 1]
  refine tl_sld C0 hX hbl hbA (tl_idx (by omega) hi.2) dL_law_322 ?_
  rw [nI_clamp (show i + 1 < 2147483648 by omega)]
  refine tg_aload_n 3 C0 dL_law_323 rfl rfl ?_
  refine tl_callS (st := []) (st0 := _) (xo' := xo') (xd' := xd') (v' := v') (bs' := bs') 3 C0 hE hTh hF hT dL_law_324 (cL_c_truncateText l hl (xs (i + 1)) v bs) ho rfl (tl_gS2 tl_L_149 tst_L_truncateText tn_L tc_L_truncateText) rfl rfl rfl rfl (by decide +kernel) ⟨Nat.le_of_ble_eq_true rfl, Nat.le_of_ble_eq_true rfl⟩ (Nat.le_of_ble_eq_true rfl) ⟨by show _ ≤ 601024; omega, by show _ ≤ 7293034; omega⟩ (fun κ b0 u hT C0 => ?_)
  refine tg_istore [(6, .int k), (0, .ref b), (1, .ref (ad 247)), (2, .ref (ar 0)), (3, .ref o1), (4, .ref o2), (5, .int (nI i))] C0 dL_law_327 (by decide) rfl ?_
  refine tg_aload_n 3 C0 dL_law_329 rfl rfl ?_
  refine tg_aload_n 1 C0 dL_law_330 rfl rfl ?_
  refine tg_iload 6 C0 dL_law_331 rfl ?_
  refine tg_iconst (x := nI 1) C0 dL_law_333 (by decide) ?_
  refine tg_iadd C0 dL_law_334 ?_
  rw [tl_add i 1]
  refine tl_sld C0 hX hbl hbA (tl_idx (by omega) hi.2) dL_law_335 ?_
  rw [nI_clamp (show i + 1 < 2147483648 by omega)]
  refine tl_mi (X' := tlW cy ad ar o1 o2 cL cD κ b0 u v' w1 xo' xd') (NW1 := tm_NWR) (pre := (tm_w cy tm_shC ad 256 v' ++ tmXB cy (ad 256) κ b0 u)) (suf := tlO o1 o2 cL cD xo' xd') (sh := tm_shR) (n := 13) (ad := ar) (As := [.int (xs (i + 1))]) (fs := [none, some 1, some 2, none, some 3, some 4, some 5, none, none, none, none, none, some 6, none, some 7, some 8, none, none, none, none, none, none, none, some 9, none, some 10, some 11, some 12]) 0 1 C0 rfl rfl (fun _ _ _ h => by cases h) rfl dL_law_336 (c_X8_truncateText l (xs (i + 1)) _) hr rfl rfl (by decide) rfl rfl (tm_gV tl_L_151 ti_X8_truncateText ts_X8_truncateText tn_X8 tc_X8_truncateText) rfl rfl rfl rfl (by decide +kernel) ⟨Nat.le_of_ble_eq_true rfl, Nat.le_of_ble_eq_true rfl⟩ (Nat.le_of_ble_eq_true rfl) ⟨by show _ ≤ 601024; omega, by show _ ≤ 7293034; omega⟩ (fun C0 => ?_)
  refine tg_istore [(7, .int r), (6, .int k), (0, .ref b), (1, .ref (ad 247)), (2, .ref (ar 0)), (3, .ref o1), (4, .ref o2), (5, .int (nI i))] C0 dL_law_339 (by decide) rfl ?_
  refine tg_aload_n 4 C0 dL_law_341 rfl rfl ?_
  refine tl_mi (X' := tlW cy ad ar o1 o2 cL cD κ b0 u v' w2 xo' xd') (NW1 := tm_NWR) (pre := (tm_w cy tm_shC ad 256 v' ++ tmXB cy (ad 256) κ b0 u)) (suf := tlO o1 o2 cL cD xo' xd') (sh := tm_shR) (n := 13) (ad := ar) (As := []) (fs := [none, some 1, some 2, none, some 3, some 4, some 5, none, none, none, none, none, some 6, none, some 7, some 8, none, none, none, none, none, none, none, some 9, none, some 10, some 11, some 12]) 0 0 C0 rfl rfl (fun _ _ _ h => by cases h) rfl dL_law_342 (c_X8_thrown l _) ht rfl rfl (by decide) rfl rfl (tm_gV tl_L_145 ti_X8_thrown ts_X8_thrown tn_X8 tc_X8_thrown) rfl rfl rfl rfl (by decide +kernel) ⟨Nat.le_of_ble_eq_true rfl, Nat.le_of_ble_eq_true rfl⟩ (Nat.le_of_ble_eq_true rfl) ⟨by show _ ≤ 601024; omega, by show _ ≤ 7293034; omega⟩ (fun C0 => ?_)
  refine tg_iload 1 C0 dL_law_345 rfl ?_
  refine tg_eq (r := if k = k then some () else none) (by rw [if_pos rfl]) ?_
  refine tg_icmp_eq 352 C0 dL_law_347 (by decide) (fun _ => ?_) (fun q => absurd rfl q)
  refine tg_iload 1 C0 dL_law_352 rfl ?_
  refine tg_eq (r := if k = 0 then some () else some ()) (by split <;> rfl) ?_
  refine tg_if_ne 369 C0 dL_law_354 (by decide) (fun _ => ?_) (fun hk => ?_)
  · refine tg_goto 2790 C0 dL_law_369 (by decide) ?_
    refine tg_sub (lv' := [(0, .ref b), (1, .ref (ad 247)), (2, .ref (ar 0)), (3, .ref o1), (4, .ref o2), (5, .int (nI i))]) [2, 3, 4, 5, 6, 7] rfl ?_
    exact tl_widen (by omega) (by omega) (cont _ _ _ _ _ _ _ _ C0 hT hR')
  refine tg_aload_n 5 C0 dL_law_357 rfl rfl ?_
  refine tg_iconst (x := 0) C0 dL_law_358 (by decide) ?_
  refine tl_lald C0 hF dL_law_359 ?_
  refine tg_iload 0 C0 dL_law_360 rfl ?_
  refine tl_i2l C0 dL_law_362 ?_
  refine tl_lcmp (heq hk) C0 dL_law_363 ?_
  refine tg_eq (r := if (0 : Int32) = 0 then some () else none) (by rw [if_pos rfl]) ?_
  refine tg_if_eq 369 C0 dL_law_364 (by decide) (fun _ => ?_) (fun q => absurd rfl q)
  refine tg_goto 2790 C0 dL_law_369 (by decide) ?_
  refine tg_sub (lv' := [(0, .ref b), (1, .ref (ad 247)), (2, .ref (ar 0)), (3, .ref o1), (4, .ref o2), (5, .int (nI i))]) [2, 3, 4, 5, 6, 7] rfl ?_
  exact tl_widen (by omega) (by omega) (cont _ _ _ _ _ _ _ _ C0 hT hR')
-- ----- case 2: runScript
set_option maxRecDepth 100000 in
theorem law_case_2 {p : Program} {l : Launch} {e : Env} {s : State} {m : MethodId} {args : Array Value} {below : List Frame} {meth : Method} {c : Code} {A : Nat → Prop} {D : va_G} {cy : Nat → ClassId} {ad ar : Nat → Nat} {o1 o2 : Nat} {cL cD : ClassId} {adK adV adE : Nat → Nat} {tC : Nat} {Q : State → Prop} {rt : Option FieldType} {cells slots b i L : Nat} {xs : Nat → Int32} {Rel Rel2 : tmM → List Int32 → tmM → Prop} (hl : l.stackTraces = false) (hp : tP_runScript Rel Rel2) (hX : va_X b L xs s s.heap) (hbl : b < s.heap.size) (hbA : ¬ A b) (hi : i + 5 ≤ L ∧ L ≤ 2560) (hE : tmSc adK adV adE tC A s s.heap) (hTh : tmTh A s s.heap) (hF : tlF D cy cL cD s) (hcs : cells + 64 ≤ 601024 ∧ slots + 8000 ≤ 7293034) {κ b0 : Nat} {u v w : tmM} {bs : List Int32} {xo : Int64} {xd : UInt64} (C0 : tmC p s m args meth c cL_law 10 rt RL TMW tm_NWC D cy tm_s0 tm_a0 0 (tlW cy ad ar o1 o2 cL cD κ b0 u v w xo xd) A) (hT : tmTx κ u bs) (hR : Rel v bs w) (cont : ∀ (κ b0 : Nat) (u v w : tmM) (bs : List Int32) (xo : Int64) (xd : UInt64), tmC p s m args meth c cL_law 10 rt RL TMW tm_NWC D cy tm_s0 tm_a0 0 (tlW cy ad ar o1 o2 cL cD κ b0 u v w xo xd) A → tmTx κ u bs → Rel2 v bs w → tmG p l e room_1 s m args below meth c (cells + 64) (slots + 8000) Q 10 D cy tm_s0 tm_a0 0 (tlW cy ad ar o1 o2 cL cD κ b0 u v w xo xd) A () 2790 [(0, .ref b), (1, .ref (ad 247)), (2, .ref (ar 0)), (3, .ref o1), (4, .ref o2), (5, .int (nI i))] [] tm_v0 (some ())) : tmG p l e room_1 s m args below meth c (cells) (slots) Q 10 D cy tm_s0 tm_a0 0 (tlW cy ad ar o1 o2 cL cD κ b0 u v w xo xd) A () 372 [(0, .ref b), (1, .ref (ad 247)), (2, .ref (ar 0)), (3, .ref o1), (4, .ref o2), (5, .int (nI i))] [] tm_v0 (some ()) := by
  obtain ⟨r, v', w', ho, hr, hR'⟩ := hp v bs w hR
  refine tg_aload_n 1 C0 dL_law_372 rfl rfl ?_
  refine tl_my (X' := tlW cy ad ar o1 o2 cL cD κ b0 u v' w xo xd) (pre := []) (suf := (tmXB cy (ad 256) κ b0 u ++ (tm_w cy tm_shR ar 13 w ++ tlO o1 o2 cL cD xo xd))) (sh := tm_shC) (n := 256) (ad := ad) (As := []) (fs := [some 0, some 248, none, none, some 249, none, some 250, some 251, some 256]) 247 0 C0 hE (List.append_assoc _ _ _) (List.append_assoc _ _ _) dL_law_373 (c_X7_runScript l _) ho rfl rfl (by decide) rfl rfl (tm_gV tl_L_152 ti_X7_runScript ts_X7_runScript tn_X7 tc_X7_runScript) rfl rfl rfl rfl (by decide +kernel) ⟨Nat.le_of_ble_eq_true rfl, Nat.le_of_ble_eq_true rfl⟩ (Nat.le_of_ble_eq_true rfl) ⟨by show _ ≤ 601024; omega, by show _ ≤ 7293034; omega⟩ (fun C0 => ?_)
  refine tg_aload_n 2 C0 dL_law_376 rfl rfl ?_
  refine tl_mi (X' := tlW cy ad ar o1 o2 cL cD κ b0 u v' w' xo xd) (NW1 := tm_NWR) (pre := (tm_w cy tm_shC ad 256 v' ++ tmXB cy (ad 256) κ b0 u)) (suf := tlO o1 o2 cL cD xo xd) (sh := tm_shR) (n := 13) (ad := ar) (As := []) (fs := [none, some 1, some 2, none, some 3, some 4, some 5, none, none, none, none, none, some 6, none, some 7, some 8, none, none, none, none, none, none, none, some 9, none, some 10, some 11, some 12]) 0 0 C0 rfl rfl (fun _ _ _ h => by cases h) rfl dL_law_377 (c_X8_runScript l _) hr rfl rfl (by decide) rfl rfl (tm_gV tl_L_155 ti_X8_runScript ts_X8_runScript tn_X8 tc_X8_runScript) rfl rfl rfl rfl (by decide +kernel) ⟨Nat.le_of_ble_eq_true rfl, Nat.le_of_ble_eq_true rfl⟩ (Nat.le_of_ble_eq_true rfl) ⟨by show _ ≤ 601024; omega, by show _ ≤ 7293034; omega⟩ (fun C0 => ?_)
  refine tg_eq (r := if r = r then some () else none) (by rw [if_pos rfl]) ?_
  refine tg_icmp_eq 2790 C0 dL_law_380 (by decide) (fun _ => ?_) (fun q => absurd rfl q)
  exact tl_widen (by omega) (by omega) (cont _ _ _ _ _ _ _ _ C0 hT hR')
-- ----- case 3: errorCode
set_option maxRecDepth 100000 in
theorem law_case_3 {p : Program} {l : Launch} {e : Env} {s : State} {m : MethodId} {args : Array Value} {below : List Frame} {meth : Method} {c : Code} {A : Nat → Prop} {D : va_G} {cy : Nat → ClassId} {ad ar : Nat → Nat} {o1 o2 : Nat} {cL cD : ClassId} {adK adV adE : Nat → Nat} {tC : Nat} {Q : State → Prop} {rt : Option FieldType} {cells slots b i L : Nat} {xs : Nat → Int32} {Rel Rel2 : tmM → List Int32 → tmM → Prop} (hl : l.stackTraces = false) (hp : tP_errorCode Rel Rel2) (hX : va_X b L xs s s.heap) (hbl : b < s.heap.size) (hbA : ¬ A b) (hi : i + 5 ≤ L ∧ L ≤ 2560) (hE : tmSc adK adV adE tC A s s.heap) (hTh : tmTh A s s.heap) (hF : tlF D cy cL cD s) (hcs : cells + 64 ≤ 601024 ∧ slots + 8000 ≤ 7293034) {κ b0 : Nat} {u v w : tmM} {bs : List Int32} {xo : Int64} {xd : UInt64} (C0 : tmC p s m args meth c cL_law 10 rt RL TMW tm_NWC D cy tm_s0 tm_a0 0 (tlW cy ad ar o1 o2 cL cD κ b0 u v w xo xd) A) (hT : tmTx κ u bs) (hR : Rel v bs w) (cont : ∀ (κ b0 : Nat) (u v w : tmM) (bs : List Int32) (xo : Int64) (xd : UInt64), tmC p s m args meth c cL_law 10 rt RL TMW tm_NWC D cy tm_s0 tm_a0 0 (tlW cy ad ar o1 o2 cL cD κ b0 u v w xo xd) A → tmTx κ u bs → Rel2 v bs w → tmG p l e room_1 s m args below meth c (cells + 64) (slots + 8000) Q 10 D cy tm_s0 tm_a0 0 (tlW cy ad ar o1 o2 cL cD κ b0 u v w xo xd) A () 2790 [(0, .ref b), (1, .ref (ad 247)), (2, .ref (ar 0)), (3, .ref o1), (4, .ref o2), (5, .int (nI i))] [] tm_v0 (some ())) : tmG p l e room_1 s m args below meth c (cells) (slots) Q 10 D cy tm_s0 tm_a0 0 (tlW cy ad ar o1 o2 cL cD κ b0 u v w xo xd) A () 385 [(0, .ref b), (1, .ref (ad 247)), (2, .ref (ar 0)), (3, .ref o1), (4, .ref o2), (5, .int (nI i))] [] tm_v0 (some ()) := by
  obtain ⟨r, v', w', ho, hr, hR'⟩ := hp v bs w hR
  refine tg_aload_n 1 C0 dL_law_385 rfl rfl ?_
  refine tl_mi (X' := tlW cy ad ar o1 o2 cL cD κ b0 u v' w xo xd) (NW1 := tm_NWC) (pre := []) (suf := (tmXB cy (ad 256) κ b0 u ++ (tm_w cy tm_shR ar 13 w ++ tlO o1 o2 cL cD xo xd))) (sh := tm_shC) (n := 256) (ad := ad) (As := []) (fs := [some 0, some 248, none, none, some 249, none, some 250, some 251, some 256]) 247 0 C0 (List.append_assoc _ _ _) (List.append_assoc _ _ _) (fun _ h => h) tm_NWC_ok dL_law_386 (c_X7_errorCode l _) ho rfl rfl (by decide) rfl rfl (tm_gV tl_L_156 ti_X7_errorCode ts_X7_errorCode tn_X7 tc_X7_errorCode) rfl rfl rfl rfl (by decide +kernel) ⟨Nat.le_of_ble_eq_true rfl, Nat.le_of_ble_eq_true rfl⟩ (Nat.le_of_ble_eq_true rfl) ⟨by show _ ≤ 601024; omega, by show _ ≤ 7293034; omega⟩ (fun C0 => ?_)
  refine tg_aload_n 2 C0 dL_law_389 rfl rfl ?_
  refine tl_mi (X' := tlW cy ad ar o1 o2 cL cD κ b0 u v' w' xo xd) (NW1 := tm_NWR) (pre := (tm_w cy tm_shC ad 256 v' ++ tmXB cy (ad 256) κ b0 u)) (suf := tlO o1 o2 cL cD xo xd) (sh := tm_shR) (n := 13) (ad := ar) (As := []) (fs := [none, some 1, some 2, none, some 3, some 4, some 5, none, none, none, none, none, some 6, none, some 7, some 8, none, none, none, none, none, none, none, some 9, none, some 10, some 11, some 12]) 0 0 C0 rfl rfl (fun _ _ _ h => by cases h) rfl dL_law_390 (c_X8_errorCode l _) hr rfl rfl (by decide) rfl rfl (tm_gV tl_L_159 ti_X8_errorCode ts_X8_errorCode tn_X8 tc_X8_errorCode) rfl rfl rfl rfl (by decide +kernel) ⟨Nat.le_of_ble_eq_true rfl, Nat.le_of_ble_eq_true rfl⟩ (Nat.le_of_ble_eq_true rfl) ⟨by show _ ≤ 601024; omega, by show _ ≤ 7293034; omega⟩ (fun C0 => ?_)
  refine tg_eq (r := if r = r then some () else none) (by rw [if_pos rfl]) ?_
  refine tg_icmp_eq 2790 C0 dL_law_393 (by decide) (fun _ => ?_) (fun q => absurd rfl q)
  exact tl_widen (by omega) (by omega) (cont _ _ _ _ _ _ _ _ C0 hT hR')
-- ----- case 4: errorPosition
set_option maxRecDepth 100000 in
theorem law_case_4 {p : Program} {l : Launch} {e : Env} {s : State} {m : MethodId} {args : Array Value} {below : List Frame} {meth : Method} {c : Code} {A : Nat → Prop} {D : va_G} {cy : Nat → ClassId} {ad ar : Nat → Nat} {o1 o2 : Nat} {cL cD : ClassId} {adK adV adE : Nat → Nat} {tC : Nat} {Q : State → Prop} {rt : Option FieldType} {cells slots b i L : Nat} {xs : Nat → Int32} {Rel Rel2 : tmM → List Int32 → tmM → Prop} (hl : l.stackTraces = false) (hp : tP_errorPosition Rel Rel2) (hX : va_X b L xs s s.heap) (hbl : b < s.heap.size) (hbA : ¬ A b) (hi : i + 5 ≤ L ∧ L ≤ 2560) (hE : tmSc adK adV adE tC A s s.heap) (hTh : tmTh A s s.heap) (hF : tlF D cy cL cD s) (hcs : cells + 64 ≤ 601024 ∧ slots + 8000 ≤ 7293034) {κ b0 : Nat} {u v w : tmM} {bs : List Int32} {xo : Int64} {xd : UInt64} (C0 : tmC p s m args meth c cL_law 10 rt RL TMW tm_NWC D cy tm_s0 tm_a0 0 (tlW cy ad ar o1 o2 cL cD κ b0 u v w xo xd) A) (hT : tmTx κ u bs) (hR : Rel v bs w) (cont : ∀ (κ b0 : Nat) (u v w : tmM) (bs : List Int32) (xo : Int64) (xd : UInt64), tmC p s m args meth c cL_law 10 rt RL TMW tm_NWC D cy tm_s0 tm_a0 0 (tlW cy ad ar o1 o2 cL cD κ b0 u v w xo xd) A → tmTx κ u bs → Rel2 v bs w → tmG p l e room_1 s m args below meth c (cells + 64) (slots + 8000) Q 10 D cy tm_s0 tm_a0 0 (tlW cy ad ar o1 o2 cL cD κ b0 u v w xo xd) A () 2790 [(0, .ref b), (1, .ref (ad 247)), (2, .ref (ar 0)), (3, .ref o1), (4, .ref o2), (5, .int (nI i))] [] tm_v0 (some ())) : tmG p l e room_1 s m args below meth c (cells) (slots) Q 10 D cy tm_s0 tm_a0 0 (tlW cy ad ar o1 o2 cL cD κ b0 u v w xo xd) A () 398 [(0, .ref b), (1, .ref (ad 247)), (2, .ref (ar 0)), (3, .ref o1), (4, .ref o2), (5, .int (nI i))] [] tm_v0 (some ()) := by
  obtain ⟨r, v', w', ho, hr, hR'⟩ := hp v bs w hR
  refine tg_aload_n 1 C0 dL_law_398 rfl rfl ?_
  refine tl_mi (X' := tlW cy ad ar o1 o2 cL cD κ b0 u v' w xo xd) (NW1 := tm_NWC) (pre := []) (suf := (tmXB cy (ad 256) κ b0 u ++ (tm_w cy tm_shR ar 13 w ++ tlO o1 o2 cL cD xo xd))) (sh := tm_shC) (n := 256) (ad := ad) (As := []) (fs := [some 0, some 248, none, none, some 249, none, some 250, some 251, some 256]) 247 0 C0 (List.append_assoc _ _ _) (List.append_assoc _ _ _) (fun _ h => h) tm_NWC_ok dL_law_399 (c_X7_errorPosition l _) ho rfl rfl (by decide) rfl rfl (tm_gV tl_L_160 ti_X7_errorPosition ts_X7_errorPosition tn_X7 tc_X7_errorPosition) rfl rfl rfl rfl (by decide +kernel) ⟨Nat.le_of_ble_eq_true rfl, Nat.le_of_ble_eq_true rfl⟩ (Nat.le_of_ble_eq_true rfl) ⟨by show _ ≤ 601024; omega, by show _ ≤ 7293034; omega⟩ (fun C0 => ?_)
  refine tg_aload_n 2 C0 dL_law_402 rfl rfl ?_
  refine tl_mi (X' := tlW cy ad ar o1 o2 cL cD κ b0 u v' w' xo xd) (NW1 := tm_NWR) (pre := (tm_w cy tm_shC ad 256 v' ++ tmXB cy (ad 256) κ b0 u)) (suf := tlO o1 o2 cL cD xo xd) (sh := tm_shR) (n := 13) (ad := ar) (As := []) (fs := [none, some 1, some 2, none, some 3, some 4, some 5, none, none, none, none, none, some 6, none, some 7, some 8, none, none, none, none, none, none, none, some 9, none, some 10, some 11, some 12]) 0 0 C0 rfl rfl (fun _ _ _ h => by cases h) rfl dL_law_403 (c_X8_errorPosition l _) hr rfl rfl (by decide) rfl rfl (tm_gV tl_L_163 ti_X8_errorPosition ts_X8_errorPosition tn_X8 tc_X8_errorPosition) rfl rfl rfl rfl (by decide +kernel) ⟨Nat.le_of_ble_eq_true rfl, Nat.le_of_ble_eq_true rfl⟩ (Nat.le_of_ble_eq_true rfl) ⟨by show _ ≤ 601024; omega, by show _ ≤ 7293034; omega⟩ (fun C0 => ?_)
  refine tg_eq (r := if r = r then some () else none) (by rw [if_pos rfl]) ?_
  refine tg_icmp_eq 2790 C0 dL_law_406 (by decide) (fun _ => ?_) (fun q => absurd rfl q)
  exact tl_widen (by omega) (by omega) (cont _ _ _ _ _ _ _ _ C0 hT hR')
-- ----- case 5: setForm
set_option maxRecDepth 100000 in
theorem law_case_5 {p : Program} {l : Launch} {e : Env} {s : State} {m : MethodId} {args : Array Value} {below : List Frame} {meth : Method} {c : Code} {A : Nat → Prop} {D : va_G} {cy : Nat → ClassId} {ad ar : Nat → Nat} {o1 o2 : Nat} {cL cD : ClassId} {adK adV adE : Nat → Nat} {tC : Nat} {Q : State → Prop} {rt : Option FieldType} {cells slots b i L : Nat} {xs : Nat → Int32} {Rel Rel2 : tmM → List Int32 → tmM → Prop} (hl : l.stackTraces = false) (hp : tP_setForm Rel Rel2) (hX : va_X b L xs s s.heap) (hbl : b < s.heap.size) (hbA : ¬ A b) (hi : i + 5 ≤ L ∧ L ≤ 2560) (hE : tmSc adK adV adE tC A s s.heap) (hTh : tmTh A s s.heap) (hF : tlF D cy cL cD s) (hcs : cells + 64 ≤ 601024 ∧ slots + 8000 ≤ 7293034) {κ b0 : Nat} {u v w : tmM} {bs : List Int32} {xo : Int64} {xd : UInt64} (C0 : tmC p s m args meth c cL_law 10 rt RL TMW tm_NWC D cy tm_s0 tm_a0 0 (tlW cy ad ar o1 o2 cL cD κ b0 u v w xo xd) A) (hT : tmTx κ u bs) (hR : Rel v bs w) (cont : ∀ (κ b0 : Nat) (u v w : tmM) (bs : List Int32) (xo : Int64) (xd : UInt64), tmC p s m args meth c cL_law 10 rt RL TMW tm_NWC D cy tm_s0 tm_a0 0 (tlW cy ad ar o1 o2 cL cD κ b0 u v w xo xd) A → tmTx κ u bs → Rel2 v bs w → tmG p l e room_1 s m args below meth c (cells + 64) (slots + 8000) Q 10 D cy tm_s0 tm_a0 0 (tlW cy ad ar o1 o2 cL cD κ b0 u v w xo xd) A () 2790 [(0, .ref b), (1, .ref (ad 247)), (2, .ref (ar 0)), (3, .ref o1), (4, .ref o2), (5, .int (nI i))] [] tm_v0 (some ())) : tmG p l e room_1 s m args below meth c (cells) (slots) Q 10 D cy tm_s0 tm_a0 0 (tlW cy ad ar o1 o2 cL cD κ b0 u v w xo xd) A () 411 [(0, .ref b), (1, .ref (ad 247)), (2, .ref (ar 0)), (3, .ref o1), (4, .ref o2), (5, .int (nI i))] [] tm_v0 (some ()) := by
  obtain ⟨k, xo', xd', v', bs', w1, w2, ho, hr, ht, hR'⟩ := hp (xs (i + 1)) (xs (i + 2)) v bs w xo xd hR
  refine tg_aload_n 1 C0 dL_law_411 rfl rfl ?_
  refine tg_aload_n 0 C0 dL_law_412 rfl rfl ?_
  refine tg_iload 5 C0 dL_law_413 rfl ?_
  refine tg_iconst (x := nI 1) C0 dL_law_415 (by decide) ?_
  refine tg_iadd C0 dL_law_416 ?_
  rw [tl_add i 1]
  refine tl_sld C0 hX hbl hbA (tl_idx (by omega) hi.2) dL_law_417 ?_
  rw [nI_clamp (show i + 1 < 2147483648 by omega)]
  refine tg_aload_n 0 C0 dL_law_418 rfl rfl ?_
  refine tg_iload 5 C0 dL_law_419 rfl ?_
  refine tg_iconst (x := nI 2) C0 dL_law_421 (by decide) ?_
  refine tg_iadd C0 dL_law_422 ?_
  rw [tl_add i 2]
  refine tl_sld C0 hX hbl hbA (tl_idx (by omega) hi.2) dL_law_423 ?_
  rw [nI_clamp (show i + 2 < 2147483648 by omega)]
  refine tl_callS (st := []) (st0 := _) (xo' := xo') (xd' := xd') (v' := v') (bs' := bs') 3 C0 hE hTh hF hT dL_law_424 (cL_c_setForm l hl (xs (i + 1)) (xs (i + 2)) v bs) ho rfl (tl_gS2 tl_L_164 tst_L_setForm tn_L tc_L_setForm) rfl rfl rfl rfl (by decide +kernel) ⟨Nat.le_of_ble_eq_true rfl, Nat.le_of_ble_eq_true rfl⟩ (Nat.le_of_ble_eq_true rfl) ⟨by show _ ≤ 601024; omega, by show _ ≤ 7293034; omega⟩ (fun κ b0 u hT C0 => ?_)
  refine tg_istore [(6, .int k), (0, .ref b), (1, .ref (ad 247)), (2, .ref (ar 0)), (3, .ref o1), (4, .ref o2), (5, .int (nI i))] C0 dL_law_427 (by decide) rfl ?_
  refine tg_aload_n 3 C0 dL_law_429 rfl rfl ?_
  refine tg_aload_n 1 C0 dL_law_430 rfl rfl ?_
  refine tg_iload 6 C0 dL_law_431 rfl ?_
  refine tg_iconst (x := nI 1) C0 dL_law_433 (by decide) ?_
  refine tg_iadd C0 dL_law_434 ?_
  rw [tl_add i 1]
  refine tl_sld C0 hX hbl hbA (tl_idx (by omega) hi.2) dL_law_435 ?_
  rw [nI_clamp (show i + 1 < 2147483648 by omega)]
  refine tg_aload_n 1 C0 dL_law_436 rfl rfl ?_
  refine tg_iload 6 C0 dL_law_437 rfl ?_
  refine tg_iconst (x := nI 2) C0 dL_law_439 (by decide) ?_
  refine tg_iadd C0 dL_law_440 ?_
  rw [tl_add i 2]
  refine tl_sld C0 hX hbl hbA (tl_idx (by omega) hi.2) dL_law_441 ?_
  rw [nI_clamp (show i + 2 < 2147483648 by omega)]
  refine tl_mv (X' := tlW cy ad ar o1 o2 cL cD κ b0 u v' w1 xo' xd') (NW1 := tm_NWR) (pre := (tm_w cy tm_shC ad 256 v' ++ tmXB cy (ad 256) κ b0 u)) (suf := tlO o1 o2 cL cD xo' xd') (sh := tm_shR) (n := 13) (ad := ar) (As := [.int (xs (i + 1)), .int (xs (i + 2))]) (fs := [none, some 1, some 2, none, some 3, some 4, some 5, none, none, none, none, none, some 6, none, some 7, some 8, none, none, none, none, none, none, none, some 9, none, some 10, some 11, some 12]) 0 2 C0 rfl rfl (fun _ _ _ h => by cases h) rfl dL_law_442 (c_X8_setForm l (xs (i + 1)) (xs (i + 2)) _) hr rfl rfl (by decide) rfl rfl (tm_gV tl_L_167 ti_X8_setForm ts_X8_setForm tn_X8 tc_X8_setForm) rfl rfl rfl rfl (by decide +kernel) ⟨Nat.le_of_ble_eq_true rfl, Nat.le_of_ble_eq_true rfl⟩ (Nat.le_of_ble_eq_true rfl) ⟨by show _ ≤ 601024; omega, by show _ ≤ 7293034; omega⟩ (fun C0 => ?_)
  refine tg_aload_n 3 C0 dL_law_445 rfl rfl ?_
  refine tl_mi (X' := tlW cy ad ar o1 o2 cL cD κ b0 u v' w2 xo' xd') (NW1 := tm_NWR) (pre := (tm_w cy tm_shC ad 256 v' ++ tmXB cy (ad 256) κ b0 u)) (suf := tlO o1 o2 cL cD xo' xd') (sh := tm_shR) (n := 13) (ad := ar) (As := []) (fs := [none, some 1, some 2, none, some 3, some 4, some 5, none, none, none, none, none, some 6, none, some 7, some 8, none, none, none, none, none, none, none, some 9, none, some 10, some 11, some 12]) 0 0 C0 rfl rfl (fun _ _ _ h => by cases h) rfl dL_law_446 (c_X8_thrown l _) ht rfl rfl (by decide) rfl rfl (tm_gV tl_L_145 ti_X8_thrown ts_X8_thrown tn_X8 tc_X8_thrown) rfl rfl rfl rfl (by decide +kernel) ⟨Nat.le_of_ble_eq_true rfl, Nat.le_of_ble_eq_true rfl⟩ (Nat.le_of_ble_eq_true rfl) ⟨by show _ ≤ 601024; omega, by show _ ≤ 7293034; omega⟩ (fun C0 => ?_)
  refine tg_iload 0 C0 dL_law_449 rfl ?_
  refine tg_eq (r := if k = k then some () else none) (by rw [if_pos rfl]) ?_
  refine tg_icmp_eq 456 C0 dL_law_451 (by decide) (fun _ => ?_) (fun q => absurd rfl q)
  refine tg_goto 2790 C0 dL_law_456 (by decide) ?_
  refine tg_sub (lv' := [(0, .ref b), (1, .ref (ad 247)), (2, .ref (ar 0)), (3, .ref o1), (4, .ref o2), (5, .int (nI i))]) [1, 2, 3, 4, 5, 6] rfl ?_
  exact tl_widen (by omega) (by omega) (cont _ _ _ _ _ _ _ _ C0 hT hR')
-- ----- case 6: setUp
set_option maxRecDepth 100000 in
theorem law_case_6 {p : Program} {l : Launch} {e : Env} {s : State} {m : MethodId} {args : Array Value} {below : List Frame} {meth : Method} {c : Code} {A : Nat → Prop} {D : va_G} {cy : Nat → ClassId} {ad ar : Nat → Nat} {o1 o2 : Nat} {cL cD : ClassId} {adK adV adE : Nat → Nat} {tC : Nat} {Q : State → Prop} {rt : Option FieldType} {cells slots b i L : Nat} {xs : Nat → Int32} {Rel Rel2 : tmM → List Int32 → tmM → Prop} (hl : l.stackTraces = false) (hp : tP_setUp Rel Rel2) (hX : va_X b L xs s s.heap) (hbl : b < s.heap.size) (hbA : ¬ A b) (hi : i + 5 ≤ L ∧ L ≤ 2560) (hE : tmSc adK adV adE tC A s s.heap) (hTh : tmTh A s s.heap) (hF : tlF D cy cL cD s) (hcs : cells + 64 ≤ 601024 ∧ slots + 8000 ≤ 7293034) {κ b0 : Nat} {u v w : tmM} {bs : List Int32} {xo : Int64} {xd : UInt64} (C0 : tmC p s m args meth c cL_law 10 rt RL TMW tm_NWC D cy tm_s0 tm_a0 0 (tlW cy ad ar o1 o2 cL cD κ b0 u v w xo xd) A) (hT : tmTx κ u bs) (hR : Rel v bs w) (cont : ∀ (κ b0 : Nat) (u v w : tmM) (bs : List Int32) (xo : Int64) (xd : UInt64), tmC p s m args meth c cL_law 10 rt RL TMW tm_NWC D cy tm_s0 tm_a0 0 (tlW cy ad ar o1 o2 cL cD κ b0 u v w xo xd) A → tmTx κ u bs → Rel2 v bs w → tmG p l e room_1 s m args below meth c (cells + 64) (slots + 8000) Q 10 D cy tm_s0 tm_a0 0 (tlW cy ad ar o1 o2 cL cD κ b0 u v w xo xd) A () 2790 [(0, .ref b), (1, .ref (ad 247)), (2, .ref (ar 0)), (3, .ref o1), (4, .ref o2), (5, .int (nI i))] [] tm_v0 (some ())) : tmG p l e room_1 s m args below meth c (cells) (slots) Q 10 D cy tm_s0 tm_a0 0 (tlW cy ad ar o1 o2 cL cD κ b0 u v w xo xd) A () 459 [(0, .ref b), (1, .ref (ad 247)), (2, .ref (ar 0)), (3, .ref o1), (4, .ref o2), (5, .int (nI i))] [] tm_v0 (some ()) := by
  obtain ⟨k, xo', xd', v', bs', r, w1, w2, ho, hr, ht, heq, hR'⟩ := hp (xs (i + 1)) (if xs (i + 2) = 0 then 0 else 1) v bs w xo xd (by split <;> decide) hR
  refine tg_aload_n 1 C0 dL_law_459 rfl rfl ?_
  refine tg_aload_n 0 C0 dL_law_460 rfl rfl ?_
  refine tg_iload 5 C0 dL_law_461 rfl ?_
  refine tg_iconst (x := nI 1) C0 dL_law_463 (by decide) ?_
  refine tg_iadd C0 dL_law_464 ?_
  rw [tl_add i 1]
  refine tl_sld C0 hX hbl hbA (tl_idx (by omega) hi.2) dL_law_465 ?_
  rw [nI_clamp (show i + 1 < 2147483648 by omega)]
  refine tg_aload_n 0 C0 dL_law_466 rfl rfl ?_
  refine tg_iload 5 C0 dL_law_467 rfl ?_
  refine tg_iconst (x := nI 2) C0 dL_law_469 (by decide) ?_
  refine tg_iadd C0 dL_law_470 ?_
  rw [tl_add i 2]
  refine tl_sld C0 hX hbl hbA (tl_idx (by omega) hi.2) dL_law_471 ?_
  rw [nI_clamp (show i + 2 < 2147483648 by omega)]
  refine tl_bool 479 480 C0 dL_law_472 dL_law_475 dL_law_476 dL_law_479 (by decide) (by decide) rfl ?_
  refine tg_aload_n 3 C0 dL_law_480 rfl rfl ?_
  refine tl_callS (st := []) (st0 := _) (xo' := xo') (xd' := xd') (v' := v') (bs' := bs') 4 C0 hE hTh hF hT dL_law_481 (cL_c_setUp l hl (xs (i + 1)) (if xs (i + 2) = 0 then 0 else 1) v bs) ho rfl (tl_gS2 tl_L_168 tst_L_setUp tn_L tc_L_setUp) rfl rfl rfl rfl (by decide +kernel) ⟨Nat.le_of_ble_eq_true rfl, Nat.le_of_ble_eq_true rfl⟩ (Nat.le_of_ble_eq_true rfl) ⟨by show _ ≤ 601024; omega, by show _ ≤ 7293034; omega⟩ (fun κ b0 u hT C0 => ?_)
  refine tg_istore [(6, .int k), (0, .ref b), (1, .ref (ad 247)), (2, .ref (ar 0)), (3, .ref o1), (4, .ref o2), (5, .int (nI i))] C0 dL_law_484 (by decide) rfl ?_
  refine tg_aload_n 3 C0 dL_law_486 rfl rfl ?_
  refine tg_aload_n 1 C0 dL_law_487 rfl rfl ?_
  refine tg_iload 6 C0 dL_law_488 rfl ?_
  refine tg_iconst (x := nI 1) C0 dL_law_490 (by decide) ?_
  refine tg_iadd C0 dL_law_491 ?_
  rw [tl_add i 1]
  refine tl_sld C0 hX hbl hbA (tl_idx (by omega) hi.2) dL_law_492 ?_
  rw [nI_clamp (show i + 1 < 2147483648 by omega)]
  refine tg_aload_n 1 C0 dL_law_493 rfl rfl ?_
  refine tg_iload 6 C0 dL_law_494 rfl ?_
  refine tg_iconst (x := nI 2) C0 dL_law_496 (by decide) ?_
  refine tg_iadd C0 dL_law_497 ?_
  rw [tl_add i 2]
  refine tl_sld C0 hX hbl hbA (tl_idx (by omega) hi.2) dL_law_498 ?_
  rw [nI_clamp (show i + 2 < 2147483648 by omega)]
  refine tl_bool 506 507 C0 dL_law_499 dL_law_502 dL_law_503 dL_law_506 (by decide) (by decide) rfl ?_
  refine tl_mi (X' := tlW cy ad ar o1 o2 cL cD κ b0 u v' w1 xo' xd') (NW1 := tm_NWR) (pre := (tm_w cy tm_shC ad 256 v' ++ tmXB cy (ad 256) κ b0 u)) (suf := tlO o1 o2 cL cD xo' xd') (sh := tm_shR) (n := 13) (ad := ar) (As := [.int (xs (i + 1)), .int (if xs (i + 2) = 0 then 0 else 1)]) (fs := [none, some 1, some 2, none, some 3, some 4, some 5, none, none, none, none, none, some 6, none, some 7, some 8, none, none, none, none, none, none, none, some 9, none, some 10, some 11, some 12]) 0 2 C0 rfl rfl (fun _ _ _ h => by cases h) rfl dL_law_507 (c_X8_setUp l (xs (i + 1)) (if xs (i + 2) = 0 then 0 else 1) _) hr rfl rfl (by decide) rfl rfl (tm_gV tl_L_171 ti_X8_setUp ts_X8_setUp tn_X8 tc_X8_setUp) rfl rfl rfl rfl (by decide +kernel) ⟨Nat.le_of_ble_eq_true rfl, Nat.le_of_ble_eq_true rfl⟩ (Nat.le_of_ble_eq_true rfl) ⟨by show _ ≤ 601024; omega, by show _ ≤ 7293034; omega⟩ (fun C0 => ?_)
  refine tg_istore [(7, .int r), (6, .int k), (0, .ref b), (1, .ref (ad 247)), (2, .ref (ar 0)), (3, .ref o1), (4, .ref o2), (5, .int (nI i))] C0 dL_law_510 (by decide) rfl ?_
  refine tg_aload_n 4 C0 dL_law_512 rfl rfl ?_
  refine tl_mi (X' := tlW cy ad ar o1 o2 cL cD κ b0 u v' w2 xo' xd') (NW1 := tm_NWR) (pre := (tm_w cy tm_shC ad 256 v' ++ tmXB cy (ad 256) κ b0 u)) (suf := tlO o1 o2 cL cD xo' xd') (sh := tm_shR) (n := 13) (ad := ar) (As := []) (fs := [none, some 1, some 2, none, some 3, some 4, some 5, none, none, none, none, none, some 6, none, some 7, some 8, none, none, none, none, none, none, none, some 9, none, some 10, some 11, some 12]) 0 0 C0 rfl rfl (fun _ _ _ h => by cases h) rfl dL_law_513 (c_X8_thrown l _) ht rfl rfl (by decide) rfl rfl (tm_gV tl_L_145 ti_X8_thrown ts_X8_thrown tn_X8 tc_X8_thrown) rfl rfl rfl rfl (by decide +kernel) ⟨Nat.le_of_ble_eq_true rfl, Nat.le_of_ble_eq_true rfl⟩ (Nat.le_of_ble_eq_true rfl) ⟨by show _ ≤ 601024; omega, by show _ ≤ 7293034; omega⟩ (fun C0 => ?_)
  refine tg_iload 1 C0 dL_law_516 rfl ?_
  refine tg_eq (r := if k = k then some () else none) (by rw [if_pos rfl]) ?_
  refine tg_icmp_eq 523 C0 dL_law_518 (by decide) (fun _ => ?_) (fun q => absurd rfl q)
  refine tg_iload 1 C0 dL_law_523 rfl ?_
  refine tg_eq (r := if k = 0 then some () else some ()) (by split <;> rfl) ?_
  refine tg_if_ne 547 C0 dL_law_525 (by decide) (fun _ => ?_) (fun hk => ?_)
  · refine tg_goto 2790 C0 dL_law_547 (by decide) ?_
    refine tg_sub (lv' := [(0, .ref b), (1, .ref (ad 247)), (2, .ref (ar 0)), (3, .ref o1), (4, .ref o2), (5, .int (nI i))]) [2, 3, 4, 5, 6, 7] rfl ?_
    exact tl_widen (by omega) (by omega) (cont _ _ _ _ _ _ _ _ C0 hT hR')
  refine tg_aload_n 5 C0 dL_law_528 rfl rfl ?_
  refine tg_iconst (x := 0) C0 dL_law_529 (by decide) ?_
  refine tl_lald C0 hF dL_law_530 ?_
  refine tg_iload 0 C0 dL_law_531 rfl ?_
  refine tl_boolL 540 541 C0 dL_law_533 dL_law_536 dL_law_537 dL_law_540 (by decide) (by decide) rfl ?_
  refine tl_lcmp (heq hk) C0 dL_law_541 ?_
  refine tg_eq (r := if (0 : Int32) = 0 then some () else none) (by rw [if_pos rfl]) ?_
  refine tg_if_eq 547 C0 dL_law_542 (by decide) (fun _ => ?_) (fun q => absurd rfl q)
  refine tg_goto 2790 C0 dL_law_547 (by decide) ?_
  refine tg_sub (lv' := [(0, .ref b), (1, .ref (ad 247)), (2, .ref (ar 0)), (3, .ref o1), (4, .ref o2), (5, .int (nI i))]) [2, 3, 4, 5, 6, 7] rfl ?_
  exact tl_widen (by omega) (by omega) (cont _ _ _ _ _ _ _ _ C0 hT hR')
-- ----- case 7: damage
set_option maxRecDepth 100000 in
theorem law_case_7 {p : Program} {l : Launch} {e : Env} {s : State} {m : MethodId} {args : Array Value} {below : List Frame} {meth : Method} {c : Code} {A : Nat → Prop} {D : va_G} {cy : Nat → ClassId} {ad ar : Nat → Nat} {o1 o2 : Nat} {cL cD : ClassId} {adK adV adE : Nat → Nat} {tC : Nat} {Q : State → Prop} {rt : Option FieldType} {cells slots b i L : Nat} {xs : Nat → Int32} {Rel Rel2 : tmM → List Int32 → tmM → Prop} (hl : l.stackTraces = false) (hp : tP_damage Rel Rel2) (hX : va_X b L xs s s.heap) (hbl : b < s.heap.size) (hbA : ¬ A b) (hi : i + 5 ≤ L ∧ L ≤ 2560) (hE : tmSc adK adV adE tC A s s.heap) (hTh : tmTh A s s.heap) (hF : tlF D cy cL cD s) (hcs : cells + 64 ≤ 601024 ∧ slots + 8000 ≤ 7293034) {κ b0 : Nat} {u v w : tmM} {bs : List Int32} {xo : Int64} {xd : UInt64} (C0 : tmC p s m args meth c cL_law 10 rt RL TMW tm_NWC D cy tm_s0 tm_a0 0 (tlW cy ad ar o1 o2 cL cD κ b0 u v w xo xd) A) (hT : tmTx κ u bs) (hR : Rel v bs w) (cont : ∀ (κ b0 : Nat) (u v w : tmM) (bs : List Int32) (xo : Int64) (xd : UInt64), tmC p s m args meth c cL_law 10 rt RL TMW tm_NWC D cy tm_s0 tm_a0 0 (tlW cy ad ar o1 o2 cL cD κ b0 u v w xo xd) A → tmTx κ u bs → Rel2 v bs w → tmG p l e room_1 s m args below meth c (cells + 64) (slots + 8000) Q 10 D cy tm_s0 tm_a0 0 (tlW cy ad ar o1 o2 cL cD κ b0 u v w xo xd) A () 2790 [(0, .ref b), (1, .ref (ad 247)), (2, .ref (ar 0)), (3, .ref o1), (4, .ref o2), (5, .int (nI i))] [] tm_v0 (some ())) : tmG p l e room_1 s m args below meth c (cells) (slots) Q 10 D cy tm_s0 tm_a0 0 (tlW cy ad ar o1 o2 cL cD κ b0 u v w xo xd) A () 550 [(0, .ref b), (1, .ref (ad 247)), (2, .ref (ar 0)), (3, .ref o1), (4, .ref o2), (5, .int (nI i))] [] tm_v0 (some ()) := by
  obtain ⟨k, xo', xd', v', bs', r, w1, w2, ho, hr, ht, heq, hR'⟩ := hp (xs (i + 1)) (xs (i + 2)) v bs w xo xd hR
  refine tg_aload_n 1 C0 dL_law_550 rfl rfl ?_
  refine tg_aload_n 0 C0 dL_law_551 rfl rfl ?_
  refine tg_iload 5 C0 dL_law_552 rfl ?_
  refine tg_iconst (x := nI 1) C0 dL_law_554 (by decide) ?_
  refine tg_iadd C0 dL_law_555 ?_
  rw [tl_add i 1]
  refine tl_sld C0 hX hbl hbA (tl_idx (by omega) hi.2) dL_law_556 ?_
  rw [nI_clamp (show i + 1 < 2147483648 by omega)]
  refine tg_aload_n 0 C0 dL_law_557 rfl rfl ?_
  refine tg_iload 5 C0 dL_law_558 rfl ?_
  refine tg_iconst (x := nI 2) C0 dL_law_560 (by decide) ?_
  refine tg_iadd C0 dL_law_561 ?_
  rw [tl_add i 2]
  refine tl_sld C0 hX hbl hbA (tl_idx (by omega) hi.2) dL_law_562 ?_
  rw [nI_clamp (show i + 2 < 2147483648 by omega)]
  refine tg_aload_n 3 C0 dL_law_563 rfl rfl ?_
  refine tl_callS (st := []) (st0 := _) (xo' := xo') (xd' := xd') (v' := v') (bs' := bs') 4 C0 hE hTh hF hT dL_law_564 (cL_c_damage l hl (xs (i + 1)) (xs (i + 2)) v bs) ho rfl (tl_gS2 tl_L_172 tst_L_damage tn_L tc_L_damage) rfl rfl rfl rfl (by decide +kernel) ⟨Nat.le_of_ble_eq_true rfl, Nat.le_of_ble_eq_true rfl⟩ (Nat.le_of_ble_eq_true rfl) ⟨by show _ ≤ 601024; omega, by show _ ≤ 7293034; omega⟩ (fun κ b0 u hT C0 => ?_)
  refine tg_istore [(6, .int k), (0, .ref b), (1, .ref (ad 247)), (2, .ref (ar 0)), (3, .ref o1), (4, .ref o2), (5, .int (nI i))] C0 dL_law_567 (by decide) rfl ?_
  refine tg_aload_n 3 C0 dL_law_569 rfl rfl ?_
  refine tg_aload_n 1 C0 dL_law_570 rfl rfl ?_
  refine tg_iload 6 C0 dL_law_571 rfl ?_
  refine tg_iconst (x := nI 1) C0 dL_law_573 (by decide) ?_
  refine tg_iadd C0 dL_law_574 ?_
  rw [tl_add i 1]
  refine tl_sld C0 hX hbl hbA (tl_idx (by omega) hi.2) dL_law_575 ?_
  rw [nI_clamp (show i + 1 < 2147483648 by omega)]
  refine tg_aload_n 1 C0 dL_law_576 rfl rfl ?_
  refine tg_iload 6 C0 dL_law_577 rfl ?_
  refine tg_iconst (x := nI 2) C0 dL_law_579 (by decide) ?_
  refine tg_iadd C0 dL_law_580 ?_
  rw [tl_add i 2]
  refine tl_sld C0 hX hbl hbA (tl_idx (by omega) hi.2) dL_law_581 ?_
  rw [nI_clamp (show i + 2 < 2147483648 by omega)]
  refine tl_mi (X' := tlW cy ad ar o1 o2 cL cD κ b0 u v' w1 xo' xd') (NW1 := tm_NWR) (pre := (tm_w cy tm_shC ad 256 v' ++ tmXB cy (ad 256) κ b0 u)) (suf := tlO o1 o2 cL cD xo' xd') (sh := tm_shR) (n := 13) (ad := ar) (As := [.int (xs (i + 1)), .int (xs (i + 2))]) (fs := [none, some 1, some 2, none, some 3, some 4, some 5, none, none, none, none, none, some 6, none, some 7, some 8, none, none, none, none, none, none, none, some 9, none, some 10, some 11, some 12]) 0 2 C0 rfl rfl (fun _ _ _ h => by cases h) rfl dL_law_582 (c_X8_damage l (xs (i + 1)) (xs (i + 2)) _) hr rfl rfl (by decide) rfl rfl (tm_gV tl_L_175 ti_X8_damage ts_X8_damage tn_X8 tc_X8_damage) rfl rfl rfl rfl (by decide +kernel) ⟨Nat.le_of_ble_eq_true rfl, Nat.le_of_ble_eq_true rfl⟩ (Nat.le_of_ble_eq_true rfl) ⟨by show _ ≤ 601024; omega, by show _ ≤ 7293034; omega⟩ (fun C0 => ?_)
  refine tg_istore [(7, .int r), (6, .int k), (0, .ref b), (1, .ref (ad 247)), (2, .ref (ar 0)), (3, .ref o1), (4, .ref o2), (5, .int (nI i))] C0 dL_law_585 (by decide) rfl ?_
  refine tg_aload_n 4 C0 dL_law_587 rfl rfl ?_
  refine tl_mi (X' := tlW cy ad ar o1 o2 cL cD κ b0 u v' w2 xo' xd') (NW1 := tm_NWR) (pre := (tm_w cy tm_shC ad 256 v' ++ tmXB cy (ad 256) κ b0 u)) (suf := tlO o1 o2 cL cD xo' xd') (sh := tm_shR) (n := 13) (ad := ar) (As := []) (fs := [none, some 1, some 2, none, some 3, some 4, some 5, none, none, none, none, none, some 6, none, some 7, some 8, none, none, none, none, none, none, none, some 9, none, some 10, some 11, some 12]) 0 0 C0 rfl rfl (fun _ _ _ h => by cases h) rfl dL_law_588 (c_X8_thrown l _) ht rfl rfl (by decide) rfl rfl (tm_gV tl_L_145 ti_X8_thrown ts_X8_thrown tn_X8 tc_X8_thrown) rfl rfl rfl rfl (by decide +kernel) ⟨Nat.le_of_ble_eq_true rfl, Nat.le_of_ble_eq_true rfl⟩ (Nat.le_of_ble_eq_true rfl) ⟨by show _ ≤ 601024; omega, by show _ ≤ 7293034; omega⟩ (fun C0 => ?_)
  refine tg_iload 1 C0 dL_law_591 rfl ?_
  refine tg_eq (r := if k = k then some () else none) (by rw [if_pos rfl]) ?_
  refine tg_icmp_eq 598 C0 dL_law_593 (by decide) (fun _ => ?_) (fun q => absurd rfl q)
  refine tg_iload 1 C0 dL_law_598 rfl ?_
  refine tg_eq (r := if k = 0 then some () else some ()) (by split <;> rfl) ?_
  refine tg_if_ne 615 C0 dL_law_600 (by decide) (fun _ => ?_) (fun hk => ?_)
  · refine tg_goto 2790 C0 dL_law_615 (by decide) ?_
    refine tg_sub (lv' := [(0, .ref b), (1, .ref (ad 247)), (2, .ref (ar 0)), (3, .ref o1), (4, .ref o2), (5, .int (nI i))]) [2, 3, 4, 5, 6, 7] rfl ?_
    exact tl_widen (by omega) (by omega) (cont _ _ _ _ _ _ _ _ C0 hT hR')
  refine tg_aload_n 5 C0 dL_law_603 rfl rfl ?_
  refine tg_iconst (x := 0) C0 dL_law_604 (by decide) ?_
  refine tl_lald C0 hF dL_law_605 ?_
  refine tg_iload 0 C0 dL_law_606 rfl ?_
  refine tl_i2l C0 dL_law_608 ?_
  refine tl_lcmp (heq hk) C0 dL_law_609 ?_
  refine tg_eq (r := if (0 : Int32) = 0 then some () else none) (by rw [if_pos rfl]) ?_
  refine tg_if_eq 615 C0 dL_law_610 (by decide) (fun _ => ?_) (fun q => absurd rfl q)
  refine tg_goto 2790 C0 dL_law_615 (by decide) ?_
  refine tg_sub (lv' := [(0, .ref b), (1, .ref (ad 247)), (2, .ref (ar 0)), (3, .ref o1), (4, .ref o2), (5, .int (nI i))]) [2, 3, 4, 5, 6, 7] rfl ?_
  exact tl_widen (by omega) (by omega) (cont _ _ _ _ _ _ _ _ C0 hT hR')
-- ----- case 8: count
set_option maxRecDepth 100000 in
theorem law_case_8 {p : Program} {l : Launch} {e : Env} {s : State} {m : MethodId} {args : Array Value} {below : List Frame} {meth : Method} {c : Code} {A : Nat → Prop} {D : va_G} {cy : Nat → ClassId} {ad ar : Nat → Nat} {o1 o2 : Nat} {cL cD : ClassId} {adK adV adE : Nat → Nat} {tC : Nat} {Q : State → Prop} {rt : Option FieldType} {cells slots b i L : Nat} {xs : Nat → Int32} {Rel Rel2 : tmM → List Int32 → tmM → Prop} (hl : l.stackTraces = false) (hp : tP_count Rel Rel2) (hX : va_X b L xs s s.heap) (hbl : b < s.heap.size) (hbA : ¬ A b) (hi : i + 5 ≤ L ∧ L ≤ 2560) (hE : tmSc adK adV adE tC A s s.heap) (hTh : tmTh A s s.heap) (hF : tlF D cy cL cD s) (hcs : cells + 64 ≤ 601024 ∧ slots + 8000 ≤ 7293034) {κ b0 : Nat} {u v w : tmM} {bs : List Int32} {xo : Int64} {xd : UInt64} (C0 : tmC p s m args meth c cL_law 10 rt RL TMW tm_NWC D cy tm_s0 tm_a0 0 (tlW cy ad ar o1 o2 cL cD κ b0 u v w xo xd) A) (hT : tmTx κ u bs) (hR : Rel v bs w) (cont : ∀ (κ b0 : Nat) (u v w : tmM) (bs : List Int32) (xo : Int64) (xd : UInt64), tmC p s m args meth c cL_law 10 rt RL TMW tm_NWC D cy tm_s0 tm_a0 0 (tlW cy ad ar o1 o2 cL cD κ b0 u v w xo xd) A → tmTx κ u bs → Rel2 v bs w → tmG p l e room_1 s m args below meth c (cells + 64) (slots + 8000) Q 10 D cy tm_s0 tm_a0 0 (tlW cy ad ar o1 o2 cL cD κ b0 u v w xo xd) A () 2790 [(0, .ref b), (1, .ref (ad 247)), (2, .ref (ar 0)), (3, .ref o1), (4, .ref o2), (5, .int (nI i))] [] tm_v0 (some ())) : tmG p l e room_1 s m args below meth c (cells) (slots) Q 10 D cy tm_s0 tm_a0 0 (tlW cy ad ar o1 o2 cL cD κ b0 u v w xo xd) A () 618 [(0, .ref b), (1, .ref (ad 247)), (2, .ref (ar 0)), (3, .ref o1), (4, .ref o2), (5, .int (nI i))] [] tm_v0 (some ()) := by
  obtain ⟨k, xo', xd', v', bs', r, w1, w2, ho, hr, ht, heq, hR'⟩ := hp (xs (i + 1)) v bs w xo xd hR
  refine tg_aload_n 1 C0 dL_law_618 rfl rfl ?_
  refine tg_aload_n 0 C0 dL_law_619 rfl rfl ?_
  refine tg_iload 5 C0 dL_law_620 rfl ?_
  refine tg_iconst (x := nI 1) C0 dL_law_622 (by decide) ?_
  refine tg_iadd C0 dL_law_623 ?_
  rw [tl_add i 1]
  refine tl_sld C0 hX hbl hbA (tl_idx (by omega) hi.2) dL_law_624 ?_
  rw [nI_clamp (show i + 1 < 2147483648 by omega)]
  refine tg_aload_n 3 C0 dL_law_625 rfl rfl ?_
  refine tl_callS (st := []) (st0 := _) (xo' := xo') (xd' := xd') (v' := v') (bs' := bs') 3 C0 hE hTh hF hT dL_law_626 (cL_c_count l hl (xs (i + 1)) v bs) ho rfl (tl_gS2 tl_L_176 tst_L_count tn_L tc_L_count) rfl rfl rfl rfl (by decide +kernel) ⟨Nat.le_of_ble_eq_true rfl, Nat.le_of_ble_eq_true rfl⟩ (Nat.le_of_ble_eq_true rfl) ⟨by show _ ≤ 601024; omega, by show _ ≤ 7293034; omega⟩ (fun κ b0 u hT C0 => ?_)
  refine tg_istore [(6, .int k), (0, .ref b), (1, .ref (ad 247)), (2, .ref (ar 0)), (3, .ref o1), (4, .ref o2), (5, .int (nI i))] C0 dL_law_629 (by decide) rfl ?_
  refine tg_aload_n 3 C0 dL_law_631 rfl rfl ?_
  refine tg_aload_n 1 C0 dL_law_632 rfl rfl ?_
  refine tg_iload 6 C0 dL_law_633 rfl ?_
  refine tg_iconst (x := nI 1) C0 dL_law_635 (by decide) ?_
  refine tg_iadd C0 dL_law_636 ?_
  rw [tl_add i 1]
  refine tl_sld C0 hX hbl hbA (tl_idx (by omega) hi.2) dL_law_637 ?_
  rw [nI_clamp (show i + 1 < 2147483648 by omega)]
  refine tl_mi (X' := tlW cy ad ar o1 o2 cL cD κ b0 u v' w1 xo' xd') (NW1 := tm_NWR) (pre := (tm_w cy tm_shC ad 256 v' ++ tmXB cy (ad 256) κ b0 u)) (suf := tlO o1 o2 cL cD xo' xd') (sh := tm_shR) (n := 13) (ad := ar) (As := [.int (xs (i + 1))]) (fs := [none, some 1, some 2, none, some 3, some 4, some 5, none, none, none, none, none, some 6, none, some 7, some 8, none, none, none, none, none, none, none, some 9, none, some 10, some 11, some 12]) 0 1 C0 rfl rfl (fun _ _ _ h => by cases h) rfl dL_law_638 (c_X8_count l (xs (i + 1)) _) hr rfl rfl (by decide) rfl rfl (tm_gV tl_L_178 ti_X8_count ts_X8_count tn_X8 tc_X8_count) rfl rfl rfl rfl (by decide +kernel) ⟨Nat.le_of_ble_eq_true rfl, Nat.le_of_ble_eq_true rfl⟩ (Nat.le_of_ble_eq_true rfl) ⟨by show _ ≤ 601024; omega, by show _ ≤ 7293034; omega⟩ (fun C0 => ?_)
  refine tg_istore [(7, .int r), (6, .int k), (0, .ref b), (1, .ref (ad 247)), (2, .ref (ar 0)), (3, .ref o1), (4, .ref o2), (5, .int (nI i))] C0 dL_law_641 (by decide) rfl ?_
  refine tg_aload_n 4 C0 dL_law_643 rfl rfl ?_
  refine tl_mi (X' := tlW cy ad ar o1 o2 cL cD κ b0 u v' w2 xo' xd') (NW1 := tm_NWR) (pre := (tm_w cy tm_shC ad 256 v' ++ tmXB cy (ad 256) κ b0 u)) (suf := tlO o1 o2 cL cD xo' xd') (sh := tm_shR) (n := 13) (ad := ar) (As := []) (fs := [none, some 1, some 2, none, some 3, some 4, some 5, none, none, none, none, none, some 6, none, some 7, some 8, none, none, none, none, none, none, none, some 9, none, some 10, some 11, some 12]) 0 0 C0 rfl rfl (fun _ _ _ h => by cases h) rfl dL_law_644 (c_X8_thrown l _) ht rfl rfl (by decide) rfl rfl (tm_gV tl_L_145 ti_X8_thrown ts_X8_thrown tn_X8 tc_X8_thrown) rfl rfl rfl rfl (by decide +kernel) ⟨Nat.le_of_ble_eq_true rfl, Nat.le_of_ble_eq_true rfl⟩ (Nat.le_of_ble_eq_true rfl) ⟨by show _ ≤ 601024; omega, by show _ ≤ 7293034; omega⟩ (fun C0 => ?_)
  refine tg_iload 1 C0 dL_law_647 rfl ?_
  refine tg_eq (r := if k = k then some () else none) (by rw [if_pos rfl]) ?_
  refine tg_icmp_eq 654 C0 dL_law_649 (by decide) (fun _ => ?_) (fun q => absurd rfl q)
  refine tg_iload 1 C0 dL_law_654 rfl ?_
  refine tg_eq (r := if k = 0 then some () else some ()) (by split <;> rfl) ?_
  refine tg_if_ne 671 C0 dL_law_656 (by decide) (fun _ => ?_) (fun hk => ?_)
  · refine tg_goto 2790 C0 dL_law_671 (by decide) ?_
    refine tg_sub (lv' := [(0, .ref b), (1, .ref (ad 247)), (2, .ref (ar 0)), (3, .ref o1), (4, .ref o2), (5, .int (nI i))]) [2, 3, 4, 5, 6, 7] rfl ?_
    exact tl_widen (by omega) (by omega) (cont _ _ _ _ _ _ _ _ C0 hT hR')
  refine tg_aload_n 5 C0 dL_law_659 rfl rfl ?_
  refine tg_iconst (x := 0) C0 dL_law_660 (by decide) ?_
  refine tl_lald C0 hF dL_law_661 ?_
  refine tg_iload 0 C0 dL_law_662 rfl ?_
  refine tl_i2l C0 dL_law_664 ?_
  refine tl_lcmp (heq hk) C0 dL_law_665 ?_
  refine tg_eq (r := if (0 : Int32) = 0 then some () else none) (by rw [if_pos rfl]) ?_
  refine tg_if_eq 671 C0 dL_law_666 (by decide) (fun _ => ?_) (fun q => absurd rfl q)
  refine tg_goto 2790 C0 dL_law_671 (by decide) ?_
  refine tg_sub (lv' := [(0, .ref b), (1, .ref (ad 247)), (2, .ref (ar 0)), (3, .ref o1), (4, .ref o2), (5, .int (nI i))]) [2, 3, 4, 5, 6, 7] rfl ?_
  exact tl_widen (by omega) (by omega) (cont _ _ _ _ _ _ _ _ C0 hT hR')
-- ----- case 9: stored
set_option maxRecDepth 100000 in
theorem law_case_9 {p : Program} {l : Launch} {e : Env} {s : State} {m : MethodId} {args : Array Value} {below : List Frame} {meth : Method} {c : Code} {A : Nat → Prop} {D : va_G} {cy : Nat → ClassId} {ad ar : Nat → Nat} {o1 o2 : Nat} {cL cD : ClassId} {adK adV adE : Nat → Nat} {tC : Nat} {Q : State → Prop} {rt : Option FieldType} {cells slots b i L : Nat} {xs : Nat → Int32} {Rel Rel2 : tmM → List Int32 → tmM → Prop} (hl : l.stackTraces = false) (hp : tP_stored Rel Rel2) (hX : va_X b L xs s s.heap) (hbl : b < s.heap.size) (hbA : ¬ A b) (hi : i + 5 ≤ L ∧ L ≤ 2560) (hE : tmSc adK adV adE tC A s s.heap) (hTh : tmTh A s s.heap) (hF : tlF D cy cL cD s) (hcs : cells + 64 ≤ 601024 ∧ slots + 8000 ≤ 7293034) {κ b0 : Nat} {u v w : tmM} {bs : List Int32} {xo : Int64} {xd : UInt64} (C0 : tmC p s m args meth c cL_law 10 rt RL TMW tm_NWC D cy tm_s0 tm_a0 0 (tlW cy ad ar o1 o2 cL cD κ b0 u v w xo xd) A) (hT : tmTx κ u bs) (hR : Rel v bs w) (cont : ∀ (κ b0 : Nat) (u v w : tmM) (bs : List Int32) (xo : Int64) (xd : UInt64), tmC p s m args meth c cL_law 10 rt RL TMW tm_NWC D cy tm_s0 tm_a0 0 (tlW cy ad ar o1 o2 cL cD κ b0 u v w xo xd) A → tmTx κ u bs → Rel2 v bs w → tmG p l e room_1 s m args below meth c (cells + 64) (slots + 8000) Q 10 D cy tm_s0 tm_a0 0 (tlW cy ad ar o1 o2 cL cD κ b0 u v w xo xd) A () 2790 [(0, .ref b), (1, .ref (ad 247)), (2, .ref (ar 0)), (3, .ref o1), (4, .ref o2), (5, .int (nI i))] [] tm_v0 (some ())) : tmG p l e room_1 s m args below meth c (cells) (slots) Q 10 D cy tm_s0 tm_a0 0 (tlW cy ad ar o1 o2 cL cD κ b0 u v w xo xd) A () 674 [(0, .ref b), (1, .ref (ad 247)), (2, .ref (ar 0)), (3, .ref o1), (4, .ref o2), (5, .int (nI i))] [] tm_v0 (some ()) := by
  obtain ⟨k, xo', xd', v', bs', r, w1, w2, ho, hr, ht, heq, hR'⟩ := hp (xs (i + 1)) (xs (i + 2)) v bs w xo xd hR
  refine tg_aload_n 1 C0 dL_law_674 rfl rfl ?_
  refine tg_aload_n 0 C0 dL_law_675 rfl rfl ?_
  refine tg_iload 5 C0 dL_law_676 rfl ?_
  refine tg_iconst (x := nI 1) C0 dL_law_678 (by decide) ?_
  refine tg_iadd C0 dL_law_679 ?_
  rw [tl_add i 1]
  refine tl_sld C0 hX hbl hbA (tl_idx (by omega) hi.2) dL_law_680 ?_
  rw [nI_clamp (show i + 1 < 2147483648 by omega)]
  refine tg_aload_n 0 C0 dL_law_681 rfl rfl ?_
  refine tg_iload 5 C0 dL_law_682 rfl ?_
  refine tg_iconst (x := nI 2) C0 dL_law_684 (by decide) ?_
  refine tg_iadd C0 dL_law_685 ?_
  rw [tl_add i 2]
  refine tl_sld C0 hX hbl hbA (tl_idx (by omega) hi.2) dL_law_686 ?_
  rw [nI_clamp (show i + 2 < 2147483648 by omega)]
  refine tg_aload_n 3 C0 dL_law_687 rfl rfl ?_
  refine tl_callS (st := []) (st0 := _) (xo' := xo') (xd' := xd') (v' := v') (bs' := bs') 4 C0 hE hTh hF hT dL_law_688 (cL_c_stored l hl (xs (i + 1)) (xs (i + 2)) v bs) ho rfl (tl_gS2 tl_L_179 tst_L_stored tn_L tc_L_stored) rfl rfl rfl rfl (by decide +kernel) ⟨Nat.le_of_ble_eq_true rfl, Nat.le_of_ble_eq_true rfl⟩ (Nat.le_of_ble_eq_true rfl) ⟨by show _ ≤ 601024; omega, by show _ ≤ 7293034; omega⟩ (fun κ b0 u hT C0 => ?_)
  refine tg_istore [(6, .int k), (0, .ref b), (1, .ref (ad 247)), (2, .ref (ar 0)), (3, .ref o1), (4, .ref o2), (5, .int (nI i))] C0 dL_law_691 (by decide) rfl ?_
  refine tg_aload_n 3 C0 dL_law_693 rfl rfl ?_
  refine tg_aload_n 1 C0 dL_law_694 rfl rfl ?_
  refine tg_iload 6 C0 dL_law_695 rfl ?_
  refine tg_iconst (x := nI 1) C0 dL_law_697 (by decide) ?_
  refine tg_iadd C0 dL_law_698 ?_
  rw [tl_add i 1]
  refine tl_sld C0 hX hbl hbA (tl_idx (by omega) hi.2) dL_law_699 ?_
  rw [nI_clamp (show i + 1 < 2147483648 by omega)]
  refine tg_aload_n 1 C0 dL_law_700 rfl rfl ?_
  refine tg_iload 6 C0 dL_law_701 rfl ?_
  refine tg_iconst (x := nI 2) C0 dL_law_703 (by decide) ?_
  refine tg_iadd C0 dL_law_704 ?_
  rw [tl_add i 2]
  refine tl_sld C0 hX hbl hbA (tl_idx (by omega) hi.2) dL_law_705 ?_
  rw [nI_clamp (show i + 2 < 2147483648 by omega)]
  refine tl_mi (X' := tlW cy ad ar o1 o2 cL cD κ b0 u v' w1 xo' xd') (NW1 := tm_NWR) (pre := (tm_w cy tm_shC ad 256 v' ++ tmXB cy (ad 256) κ b0 u)) (suf := tlO o1 o2 cL cD xo' xd') (sh := tm_shR) (n := 13) (ad := ar) (As := [.int (xs (i + 1)), .int (xs (i + 2))]) (fs := [none, some 1, some 2, none, some 3, some 4, some 5, none, none, none, none, none, some 6, none, some 7, some 8, none, none, none, none, none, none, none, some 9, none, some 10, some 11, some 12]) 0 2 C0 rfl rfl (fun _ _ _ h => by cases h) rfl dL_law_706 (c_X8_stored l (xs (i + 1)) (xs (i + 2)) _) hr rfl rfl (by decide) rfl rfl (tm_gV tl_L_181 ti_X8_stored ts_X8_stored tn_X8 tc_X8_stored) rfl rfl rfl rfl (by decide +kernel) ⟨Nat.le_of_ble_eq_true rfl, Nat.le_of_ble_eq_true rfl⟩ (Nat.le_of_ble_eq_true rfl) ⟨by show _ ≤ 601024; omega, by show _ ≤ 7293034; omega⟩ (fun C0 => ?_)
  refine tg_istore [(7, .int r), (6, .int k), (0, .ref b), (1, .ref (ad 247)), (2, .ref (ar 0)), (3, .ref o1), (4, .ref o2), (5, .int (nI i))] C0 dL_law_709 (by decide) rfl ?_
  refine tg_aload_n 4 C0 dL_law_711 rfl rfl ?_
  refine tl_mi (X' := tlW cy ad ar o1 o2 cL cD κ b0 u v' w2 xo' xd') (NW1 := tm_NWR) (pre := (tm_w cy tm_shC ad 256 v' ++ tmXB cy (ad 256) κ b0 u)) (suf := tlO o1 o2 cL cD xo' xd') (sh := tm_shR) (n := 13) (ad := ar) (As := []) (fs := [none, some 1, some 2, none, some 3, some 4, some 5, none, none, none, none, none, some 6, none, some 7, some 8, none, none, none, none, none, none, none, some 9, none, some 10, some 11, some 12]) 0 0 C0 rfl rfl (fun _ _ _ h => by cases h) rfl dL_law_712 (c_X8_thrown l _) ht rfl rfl (by decide) rfl rfl (tm_gV tl_L_145 ti_X8_thrown ts_X8_thrown tn_X8 tc_X8_thrown) rfl rfl rfl rfl (by decide +kernel) ⟨Nat.le_of_ble_eq_true rfl, Nat.le_of_ble_eq_true rfl⟩ (Nat.le_of_ble_eq_true rfl) ⟨by show _ ≤ 601024; omega, by show _ ≤ 7293034; omega⟩ (fun C0 => ?_)
  refine tg_iload 1 C0 dL_law_715 rfl ?_
  refine tg_eq (r := if k = k then some () else none) (by rw [if_pos rfl]) ?_
  refine tg_icmp_eq 722 C0 dL_law_717 (by decide) (fun _ => ?_) (fun q => absurd rfl q)
  refine tg_iload 1 C0 dL_law_722 rfl ?_
  refine tg_eq (r := if k = 0 then some () else some ()) (by split <;> rfl) ?_
  refine tg_if_ne 739 C0 dL_law_724 (by decide) (fun _ => ?_) (fun hk => ?_)
  · refine tg_goto 2790 C0 dL_law_739 (by decide) ?_
    refine tg_sub (lv' := [(0, .ref b), (1, .ref (ad 247)), (2, .ref (ar 0)), (3, .ref o1), (4, .ref o2), (5, .int (nI i))]) [2, 3, 4, 5, 6, 7] rfl ?_
    exact tl_widen (by omega) (by omega) (cont _ _ _ _ _ _ _ _ C0 hT hR')
  refine tg_aload_n 5 C0 dL_law_727 rfl rfl ?_
  refine tg_iconst (x := 0) C0 dL_law_728 (by decide) ?_
  refine tl_lald C0 hF dL_law_729 ?_
  refine tg_iload 0 C0 dL_law_730 rfl ?_
  refine tl_i2l C0 dL_law_732 ?_
  refine tl_lcmp (heq hk) C0 dL_law_733 ?_
  refine tg_eq (r := if (0 : Int32) = 0 then some () else none) (by rw [if_pos rfl]) ?_
  refine tg_if_eq 739 C0 dL_law_734 (by decide) (fun _ => ?_) (fun q => absurd rfl q)
  refine tg_goto 2790 C0 dL_law_739 (by decide) ?_
  refine tg_sub (lv' := [(0, .ref b), (1, .ref (ad 247)), (2, .ref (ar 0)), (3, .ref o1), (4, .ref o2), (5, .int (nI i))]) [2, 3, 4, 5, 6, 7] rfl ?_
  exact tl_widen (by omega) (by omega) (cont _ _ _ _ _ _ _ _ C0 hT hR')
