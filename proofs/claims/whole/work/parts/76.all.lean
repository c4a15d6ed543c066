/-! ===== all calls ===== -/
theorem zc_appendText {B B' : Nat} (hB : B + 1800 ≤ B') (hB1 : B < 1000000) : tP_appendText (mG B) (mG B') := fun x1 v bs w xo xd h => mq_ans (by omega) (mt_appendText h x1) xo xd
theorem zc_truncateText {B B' : Nat} (hB : B + 1800 ≤ B') (hB1 : B < 1000000) : tP_truncateText (mG B) (mG B') := fun x1 v bs w xo xd h => mq_ans (by omega) (mt_truncateText h x1) xo xd
theorem zc_runScript {B B' : Nat} (hB : B + 1800 ≤ B') (hB1 : B < 1000000) : tP_runScript (mG B) (mG B') := fun v bs w h => mt_runScript hB h
theorem zc_errorCode {B B' : Nat} (hB : B + 1800 ≤ B') (hB1 : B < 1000000) : tP_errorCode (mG B) (mG B') := fun v bs w h => by
  obtain ⟨r, v2, w2, a1, a2, a3⟩ := mt_errorCode h
  exact ⟨r, v2, w2, a1, a2, mG_mono (by omega) a3⟩
theorem zc_errorPosition {B B' : Nat} (hB : B + 1800 ≤ B') (hB1 : B < 1000000) : tP_errorPosition (mG B) (mG B') := fun v bs w h => by
  obtain ⟨r, v2, w2, a1, a2, a3⟩ := mt_errorPosition h
  exact ⟨r, v2, w2, a1, a2, mG_mono (by omega) a3⟩
theorem zc_setForm {B B' : Nat} (hB : B + 1800 ≤ B') (hB1 : B < 1000000) : tP_setForm (mG B) (mG B') := fun x1 x2 v bs w xo xd h => mq_ansU (by omega) (mt_setForm h x1 x2) xo xd
theorem zc_setUp {B B' : Nat} (hB : B + 1800 ≤ B') (hB1 : B < 1000000) : tP_setUp (mG B) (mG B') := fun x1 x2 v bs w xo xd hx2 h => mq_ansB (by omega) (mt_setUp h x1 x2 hx2) xo xd
theorem zc_damage {B B' : Nat} (hB : B + 1800 ≤ B') (hB1 : B < 1000000) : tP_damage (mG B) (mG B') := fun x1 x2 v bs w xo xd h => mq_ans (by omega) (mt_damage h x1 x2) xo xd
theorem zc_count {B B' : Nat} (hB : B + 1800 ≤ B') (hB1 : B < 1000000) : tP_count (mG B) (mG B') := fun x1 v bs w xo xd h => mq_ans (by omega) (mt_count h x1) xo xd
theorem zc_stored {B B' : Nat} (hB : B + 1800 ≤ B') (hB1 : B < 1000000) : tP_stored (mG B) (mG B') := fun x1 x2 v bs w xo xd h => mq_ans (by omega) (mt_stored h x1 x2) xo xd
theorem zc_read {B B' : Nat} (hB : B + 1800 ≤ B') (hB1 : B < 1000000) : tP_read (mG B) (mG B') := fun x1 x2 v bs w xo xd h => mq_ans (by omega) (mt_read h x1 x2) xo xd
theorem zc_isSwitched {B B' : Nat} (hB : B + 1800 ≤ B') (hB1 : B < 1000000) : tP_isSwitched (mG B) (mG B') := fun x1 v bs w xo xd h => mq_ansB (by omega) (mt_isSwitched h x1) xo xd
theorem zc_chunk {B B' : Nat} (hB : B + 1800 ≤ B') (hB1 : B < 1000000) : tP_chunk (mG B) (mG B') := fun x1 x2 v bs w xo xd h => mq_ans (by omega) (mt_chunk h x1 x2) xo xd
theorem zc_stale {B B' : Nat} (hB : B + 1800 ≤ B') (hB1 : B < 1000000) : tP_stale (mG B) (mG B') := fun x1 v bs w xo xd h => mq_ans (by omega) (mt_stale h x1) xo xd
theorem zc_brokenPromise {B B' : Nat} (hB : B + 1800 ≤ B') (hB1 : B < 1000000) : tP_brokenPromise (mG B) (mG B') := fun v bs w h => by
  obtain ⟨r, v2, w2, a1, a2, a3⟩ := mt_brokenPromise h
  exact ⟨r, v2, w2, a1, a2, mG_mono (by omega) a3⟩
theorem zc_troubledReaders {B B' : Nat} (hB : B + 1800 ≤ B') (hB1 : B < 1000000) : tP_troubledReaders (mG B) (mG B') := fun v bs w h => by
  obtain ⟨r, v2, w2, a1, a2, a3⟩ := mt_troubledReaders h
  exact ⟨r, v2, w2, a1, a2, mG_mono (by omega) a3⟩
theorem zc_event {B B' : Nat} (hB : B + 1800 ≤ B') (hB1 : B < 1000000) : tP_event (mG B) (mG B') := fun x1 x2 v bs w xo xd h => mq_ans (by omega) (mt_event h x1 x2) xo xd
theorem zc_since {B B' : Nat} (hB : B + 1800 ≤ B') (hB1 : B < 1000000) : tP_since (mG B) (mG B') := fun x1 x2 v bs w xo xd h => mq_ans (by omega) (mt_since hB1 h x1 x2) xo xd
theorem zc_account {B B' : Nat} (hB : B + 1800 ≤ B') (hB1 : B < 1000000) : tP_account (mG B) (mG B') := fun x1 v bs w xo xd h => mq_ans (by omega) (mt_account h x1) xo xd
theorem zc_put {B B' : Nat} (hB : B + 1800 ≤ B') (hB1 : B < 1000000) : tP_put (mG B) (mG B') := fun x1 x2 v bs w xo xd h => mq_ans (by omega) (mt_put h x1 x2) xo xd
theorem zc_remove {B B' : Nat} (hB : B + 1800 ≤ B') (hB1 : B < 1000000) : tP_remove (mG B) (mG B') := fun x1 v bs w xo xd h => mq_ans (by omega) (mt_remove h x1) xo xd
theorem zc_begin {B B' : Nat} (hB : B + 1800 ≤ B') (hB1 : B < 1000000) : tP_begin (mG B) (mG B') := fun v bs w h => by
  obtain ⟨r, v2, w2, a1, a2, a3⟩ := mt_begin h
  exact ⟨r, v2, w2, a1, a2, mG_mono (by omega) a3⟩
theorem zc_copy {B B' : Nat} (hB : B + 1800 ≤ B') (hB1 : B < 1000000) : tP_copy (mG B) (mG B') := fun x1 v bs w xo xd h => mq_ans (by omega) (mt_copy h x1) xo xd
theorem zc_repair {B B' : Nat} (hB : B + 1800 ≤ B') (hB1 : B < 1000000) : tP_repair (mG B) (mG B') := fun x1 v bs w xo xd h => mq_ans (by omega) (mt_repair h x1) xo xd
theorem zc_check {B B' : Nat} (hB : B + 1800 ≤ B') (hB1 : B < 1000000) : tP_check (mG B) (mG B') := fun x1 v bs w xo xd h => mq_ans (by omega) (mt_check h x1) xo xd
theorem zc_switchOver {B B' : Nat} (hB : B + 1800 ≤ B') (hB1 : B < 1000000) : tP_switchOver (mG B) (mG B') := fun x1 v bs w xo xd h => mq_ans (by omega) (mt_switchOver h x1) xo xd
theorem zc_switchBack {B B' : Nat} (hB : B + 1800 ≤ B') (hB1 : B < 1000000) : tP_switchBack (mG B) (mG B') := fun x1 v bs w xo xd h => mq_ans (by omega) (mt_switchBack h x1) xo xd
theorem zc_lead {B B' : Nat} (hB : B + 1800 ≤ B') (hB1 : B < 1000000) : tP_lead (mG B) (mG B') := fun v bs w h => by
  obtain ⟨r, v2, w2, a1, a2, a3⟩ := mt_lead h
  exact ⟨r, v2, w2, a1, a2, mG_mono (by omega) a3⟩
theorem zc_goBack {B B' : Nat} (hB : B + 1800 ≤ B') (hB1 : B < 1000000) : tP_goBack (mG B) (mG B') := fun x1 v bs w hx1 h => by
  obtain ⟨r, v2, w2, a1, a2, a3⟩ := mt_goBack h x1 hx1
  exact ⟨r, v2, w2, a1, a2, mG_mono (by omega) a3⟩
theorem zc_stop {B B' : Nat} (hB : B + 1800 ≤ B') (hB1 : B < 1000000) : tP_stop (mG B) (mG B') := fun v bs w h => by
  obtain ⟨r, v2, w2, a1, a2, a3⟩ := mt_stop h
  exact ⟨r, v2, w2, a1, a2, mG_mono (by omega) a3⟩
theorem zc_finish {B B' : Nat} (hB : B + 1800 ≤ B') (hB1 : B < 1000000) : tP_finish (mG B) (mG B') := fun v bs w h => by
  obtain ⟨r, v2, w2, a1, a2, a3⟩ := mt_finish h
  exact ⟨r, v2, w2, a1, a2, mG_mono (by omega) a3⟩
theorem zc_fill {B B' : Nat} (hB : B + 1800 ≤ B') (hB1 : B < 1000000) : tP_fill (mG B) (mG B') := fun x1 x2 x3 x4 v bs w xo xd h => mq_ans (by omega) (mt_fill h x1 x2 x3 x4) xo xd
theorem zc_clearRange {B B' : Nat} (hB : B + 1800 ≤ B') (hB1 : B < 1000000) : tP_clearRange (mG B) (mG B') := fun x1 x2 v bs w xo xd h => mq_ans (by omega) (mt_clearRange h x1 x2) xo xd
theorem zc_why {B B' : Nat} (hB : B + 1800 ≤ B') (hB1 : B < 1000000) : tP_why (mG B) (mG B') := fun x1 x2 v bs w xo xd h => mq_ans (by omega) (mt_why h x1 x2) xo xd
theorem zc_next {B B' : Nat} (hB : B + 1800 ≤ B') (hB1 : B < 1000000) : tP_next (mG B) (mG B') := fun x1 v bs w xo xd h => mq_ans (by omega) (mt_next h x1) xo xd
theorem zc_advance {B B' : Nat} (hB : B + 1800 ≤ B') (hB1 : B < 1000000) : tP_advance (mG B) (mG B') := fun x1 v bs w xo xd h => mq_ans (by omega) (mt_advance h x1) xo xd
theorem zc_differing {B B' : Nat} (hB : B + 1800 ≤ B') (hB1 : B < 1000000) : tP_differing (mG B) (mG B') := fun x1 v bs w xo xd h => mq_ans (by omega) (mt_differing h x1) xo xd
theorem zc_lookup {B B' : Nat} (hB : B + 1800 ≤ B') (hB1 : B < 1000000) : tP_lookup (mG B) (mG B') := fun x1 x2 v bs w xo xd h => mq_ans (by omega) (mt_lookup h x1 x2) xo xd
theorem zc_total {B B' : Nat} (hB : B + 1800 ≤ B') (hB1 : B < 1000000) : tP_total (mG B) (mG B') := fun x1 x2 v bs w xo xd h => mq_ans (by omega) (mt_total h x1 x2) xo xd
theorem zc_mean {B B' : Nat} (hB : B + 1800 ≤ B') (hB1 : B < 1000000) : tP_mean (mG B) (mG B') := fun x1 v bs w xo xd h => mt_mean (by omega) h x1 xo xd
theorem zc_agreement {B B' : Nat} (hB : B + 1800 ≤ B') (hB1 : B < 1000000) : tP_agreement (mG B) (mG B') := fun v bs w h => mt_agreement (by omega) h
theorem zc_readSum {B B' : Nat} (hB : B + 1800 ≤ B') (hB1 : B < 1000000) : tP_readSum (mG B) (mG B') := fun x1 x2 x3 v bs w xo xd h => mq_ans (by omega) (mt_readSum h x1 x2 x3) xo xd
theorem zc_written {B B' : Nat} (hB : B + 1800 ≤ B') (hB1 : B < 1000000) : tP_written (mG B) (mG B') := fun x1 v bs w xo xd h => mq_ans (by omega) (mt_written h x1) xo xd
theorem zc_changed {B B' : Nat} (hB : B + 1800 ≤ B') (hB1 : B < 1000000) : tP_changed (mG B) (mG B') := fun x1 v bs w xo xd h => mq_ans (by omega) (mt_changed h x1) xo xd
theorem zc_eventsOf {B B' : Nat} (hB : B + 1800 ≤ B') (hB1 : B < 1000000) : tP_eventsOf (mG B) (mG B') := fun x1 x2 v bs w xo xd h => mq_ans (by omega) (mt_eventsOf h x1 x2) xo xd
theorem zc_write {B B' : Nat} (hB : B + 1800 ≤ B') (hB1 : B < 1000000) : tP_write (mG B) (mG B') := fun x1 v bs w xo xd h => mt_write (by omega) h x1 xo xd
theorem zc_output {B B' : Nat} (hB : B + 1800 ≤ B') (hB1 : B < 1000000) : tP_output (mG B) (mG B') := fun x1 v bs w h => mt_output (by omega) h x1
theorem zc_undo {B B' : Nat} (hB : B + 1800 ≤ B') (hB1 : B < 1000000) : tP_undo (mG B) (mG B') := fun v bs w h => by
  obtain ⟨r, v2, w2, a1, a2, a3⟩ := mt_undo h
  exact ⟨r, v2, w2, a1, a2, mG_mono (by omega) a3⟩
theorem zc_save {B B' : Nat} (hB : B + 1800 ≤ B') (hB1 : B < 1000000) : tP_save (mG B) (mG B') := fun x1 v bs w xo xd h => mq_ansU (by omega) (mt_save h x1) xo xd
theorem zc_restore {B B' : Nat} (hB : B + 1800 ≤ B') (hB1 : B < 1000000) : tP_restore (mG B) (mG B') := fun x1 v bs w xo xd h => mq_ansU (by omega) (mt_restore h x1) xo xd
theorem zc_all {B B' : Nat} (hB : B + 1800 ≤ B') (hB1 : B < 1000000) : tP_all (mG B) (mG B') := ⟨zc_appendText hB hB1, zc_truncateText hB hB1, zc_runScript hB hB1, zc_errorCode hB hB1, zc_errorPosition hB hB1, zc_setForm hB hB1, zc_setUp hB hB1, zc_damage hB hB1, zc_count hB hB1, zc_stored hB hB1, zc_read hB hB1, zc_isSwitched hB hB1, zc_chunk hB hB1, zc_stale hB hB1, zc_brokenPromise hB hB1, zc_troubledReaders hB hB1, zc_event hB hB1, zc_since hB hB1, zc_account hB hB1, zc_put hB hB1, zc_remove hB hB1, zc_begin hB hB1, zc_copy hB hB1, zc_repair hB hB1, zc_check hB hB1, zc_switchOver hB hB1, zc_switchBack hB hB1, zc_lead hB hB1, zc_goBack hB hB1, zc_stop hB hB1, zc_finish hB hB1, zc_fill hB hB1, zc_clearRange hB hB1, zc_why hB hB1, zc_next hB hB1, zc_advance hB hB1, zc_differing hB hB1, zc_lookup hB hB1, zc_total hB hB1, zc_mean hB hB1, zc_agreement hB hB1, zc_readSum hB hB1, zc_written hB hB1, zc_changed hB hB1, zc_eventsOf hB hB1, zc_write hB hB1, zc_output hB hB1, zc_undo hB hB1, zc_save hB hB1, zc_restore hB hB1, fun v bs w h => mG_mono (by omega) h⟩
