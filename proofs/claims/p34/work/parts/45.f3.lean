theorem EQP.tc {u v : TS} (h : EQP u v) : ∀ r, fTC v r = fTC u r
  | 0 => rfl
  | r + 1 => by
    have e1 : L0_count v = L0_count u := h.n.2.2.2.2.1
    have e2 : ∀ j, L0_account v j = L0_account u j := fun j => congrFun (h.2.2.2.1 2 (by decide)) j
    have e3 := h.es.cur
    unfold fTC
    rw [EQP.tc h r, e1, e2, e2, e3, e3]
theorem EQP.why {u v : TS} (h : EQP u v) : fWhy v = fWhy u := by
  have e1 : L0_count v = L0_count u := h.n.2.2.2.2.1
  have e2 : DR_isThere v = DR_isThere u := congrFun h.2.1 0
  have e3 : DR_day v = DR_day u := h.n.2.2.2.2.2.2.2.1
  have e4 : L0_worth v = L0_worth u := h.2.2.2.2.2.2.2 1 (by decide)
  have e5 : T_exchangeAccount v = T_exchangeAccount u := congrFun h.2.2.1 0
  have e6 : fCanEx v = fCanEx u := by unfold fCanEx; rw [e5, e1, h.tc, e4]
  unfold fWhy
  rw [e1, e2, e3, e4, e6, h.es.qLock, h.es.jn]
