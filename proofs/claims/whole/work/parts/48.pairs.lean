theorem CIn.kk {A : AS} {u v : Mem} (h : CIn A u) (hk : KK u v) : CIn A v := h.keep fun c i j hc => hk c i j (by simp only [KC] at hc; omega)
theorem MIn.km {A : AS} {u v : Mem} (h : MIn A u) (hk : KM u v) : MIn A v := h.keep fun c j hc => hk c 0 j (by simp only [KR] at hc; omega)
def knd (v : MV) (lg : Bool) : Prop := if lg = true then ∃ x, v = .inr (.inl x) else ∃ x, v = .inl x
def Inv (u : Mem) : Prop := ∃ A, CIn A u ∧ MIn A u
/-- a call of the class, then the same of the reference: the same answer -/
def Pr (gW gM : Sg) (as : List MV) (u : Mem) (lg : Bool) : Prop := OKm 40 gW (.inr (.inr (7, 0)) :: as) u fun r u1 => ∃ v : MV, r = some v ∧ knd v lg ∧ OKm 40 gM (.inr (.inr (8, 0)) :: as) u1 fun r2 u2 => r2 = some v ∧ Inv u2
theorem pr_type {u : Mem} {a b : Int32} (h : Inv u) : Pr g_W_type g_M_type [.inl a, .inl b] u false := by
  obtain ⟨A, hc, hm⟩ := h
  exact c_W_type (d := 34) hc (fun v hv hk => ⟨_, rfl, ⟨_, rfl⟩, c_M_type (d := 37) (hm.km hk) (fun w hw hkk => ⟨rfl, _, hv.kk hkk, hw⟩)⟩)
theorem pr_wipe {u : Mem} {a : Int32} (h : Inv u) : Pr g_W_wipe g_M_wipe [.inl a] u false := by
  obtain ⟨A, hc, hm⟩ := h
  exact c_W_wipe (d := 34) hc (fun v hv hk => ⟨_, rfl, ⟨_, rfl⟩, c_M_wipe (d := 37) (hm.km hk) (fun w hw hkk => ⟨rfl, _, hv.kk hkk, hw⟩)⟩)
theorem pr_undo {u : Mem} {a : Int32} (h : Inv u) : Pr g_W_undo g_M_undo [.inl a] u false := by
  obtain ⟨A, hc, hm⟩ := h
  exact c_W_undo (d := 34) hc (fun v hv hk => ⟨_, rfl, ⟨_, rfl⟩, c_M_undo (d := 37) (hm.km hk) (fun w hw hkk => ⟨rfl, _, hv.kk hkk, hw⟩)⟩)
theorem pr_fault {u : Mem} {a : Int32} (h : Inv u) : Pr g_W_fault g_M_fault [.inl a] u false := by
  obtain ⟨A, hc, hm⟩ := h
  exact c_W_fault (d := 38) hc ⟨_, rfl, ⟨_, rfl⟩, c_M_fault (d := 34) hm (fun w hw hkk => ⟨rfl, _, hc.kk hkk, hw⟩)⟩
theorem pr_poster {u : Mem} {a b : Int32} (h : Inv u) : Pr g_W_poster g_M_poster [.inl a, .inl b] u false := by
  obtain ⟨A, hc, hm⟩ := h
  exact c_W_poster (d := 37) hc ⟨_, rfl, ⟨_, rfl⟩, c_M_poster (d := 35) hm (fun w hw hkk => ⟨rfl, _, hc.kk hkk, hw⟩)⟩
theorem pr_rain {u : Mem} {a : Int32} (h : Inv u) : Pr g_W_rain g_M_rain [.inl a] u false := by
  obtain ⟨A, hc, hm⟩ := h
  exact c_W_rain (d := 38) hc ⟨_, rfl, ⟨_, rfl⟩, c_M_rain (d := 36) hm (fun w hw hkk => ⟨rfl, _, hc.kk hkk, hw⟩)⟩
theorem pr_law {u : Mem} {a : Int32} (h : Inv u) : Pr g_W_law g_M_law [.inl a] u false := by
  obtain ⟨A, hc, hm⟩ := h
  exact c_W_law (d := 38) hc ⟨_, rfl, ⟨_, rfl⟩, c_M_law (d := 36) hm (fun w hw hkk => ⟨rfl, _, hc.kk hkk, hw⟩)⟩
theorem pr_tear {u : Mem} {a b : Int32} (h : Inv u) : Pr g_W_tear g_M_tear [.inl a, .inl b] u false := by
  obtain ⟨A, hc, hm⟩ := h
  exact c_W_tear (d := 38) hc (fun v hv hk => ⟨_, rfl, ⟨_, rfl⟩, c_M_tear (d := 37) (hm.km hk) (fun w hw hkk => ⟨rfl, _, hv.kk hkk, hw⟩)⟩)
theorem pr_back {u : Mem} (h : Inv u) : Pr g_W_back g_M_back [] u false := by
  obtain ⟨A, hc, hm⟩ := h
  exact c_W_back (d := 39) hc (fun v hv hk => ⟨_, rfl, ⟨_, rfl⟩, c_M_back (d := 39) (hm.km hk) (fun w hw hkk => ⟨rfl, _, hv.kk hkk, hw⟩)⟩)
theorem pr_read {u : Mem} {a : Int32} (h : Inv u) : Pr g_W_read g_M_read [.inl a] u false := by
  obtain ⟨A, hc, hm⟩ := h
  exact c_W_read (d := 37) hc (fun v hv hk => ⟨_, rfl, ⟨_, rfl⟩, c_M_read (d := 36) (hm.km hk) (fun w hw hkk => ⟨rfl, _, hv.kk hkk, hw⟩)⟩)
theorem pr_at {u : Mem} {a b c : Int32} (h : Inv u) : Pr g_W_at g_M_at [.inl a, .inl b, .inl c] u false := by
  obtain ⟨A, hc, hm⟩ := h
  exact c_W_at (d := 35) hc (fun v hv hk => ⟨_, rfl, ⟨_, rfl⟩, c_M_at (d := 34) (hm.km hk) (fun w hw hkk => ⟨rfl, _, hv.kk hkk, hw⟩)⟩)
theorem pr_obeyed {u : Mem} {a : Int32} (h : Inv u) : Pr g_W_obeyed g_M_obeyed [.inl a] u false := by
  obtain ⟨A, hc, hm⟩ := h
  exact c_W_obeyed (d := 35) hc (fun v hv hk => ⟨_, rfl, ⟨_, rfl⟩, c_M_obeyed (d := 34) (hm.km hk) (fun w hw hkk => ⟨rfl, _, hv.kk hkk, hw⟩)⟩)
theorem pr_days {u : Mem} {a : Int32} (h : Inv u) : Pr g_W_days g_M_days [.inl a] u false := by
  obtain ⟨A, hc, hm⟩ := h
  exact c_W_days (d := 35) hc (fun v hv hk => ⟨_, rfl, ⟨_, rfl⟩, c_M_days (d := 34) (hm.km hk) (fun w hw hkk => ⟨rfl, _, hv.kk hkk, hw⟩)⟩)
theorem pr_unread {u : Mem} (h : Inv u) : Pr g_W_unread g_M_unread [] u false := by
  obtain ⟨A, hc, hm⟩ := h
  exact c_W_unread (d := 34) hc (fun v hv hk => ⟨_, rfl, ⟨_, rfl⟩, c_M_unread (d := 34) (hm.km hk) (fun w hw hkk => ⟨rfl, _, hv.kk hkk, hw⟩)⟩)
theorem pr_often {u : Mem} (h : Inv u) : Pr g_W_often g_M_often [] u false := by
  obtain ⟨A, hc, hm⟩ := h
  exact c_W_often (d := 35) hc (fun v hv hk => ⟨_, rfl, ⟨_, rfl⟩, c_M_often (d := 34) (hm.km hk) (fun w hw hkk => ⟨rfl, _, hv.kk hkk, hw⟩)⟩)
theorem pr_rip {u : Mem} {a b : Int32} (h : Inv u) : Pr g_W_rip g_M_rip [.inl a, .inl b] u false := by
  obtain ⟨A, hc, hm⟩ := h
  exact c_W_rip (d := 34) hc (fun v hv hk => ⟨_, rfl, ⟨_, rfl⟩, c_M_rip (d := 34) (hm.km hk) (fun w hw hkk => ⟨rfl, _, hv.kk hkk, hw⟩)⟩)
theorem pr_wet {u : Mem} {a : Int32} (h : Inv u) : Pr g_W_wet g_M_wet [.inl a] u false := by
  obtain ⟨A, hc, hm⟩ := h
  exact c_W_wet (d := 35) hc (fun v hv hk => ⟨_, rfl, ⟨_, rfl⟩, c_M_wet (d := 34) (hm.km hk) (fun w hw hkk => ⟨rfl, _, hv.kk hkk, hw⟩)⟩)
theorem pr_paste {u : Mem} {a b : Int32} (h : Inv u) : Pr g_W_paste g_M_paste [.inl a, .inl b] u false := by
  obtain ⟨A, hc, hm⟩ := h
  exact c_W_paste (d := 34) hc (fun v hv hk => ⟨_, rfl, ⟨_, rfl⟩, c_M_paste (d := 34) (hm.km hk) (fun w hw hkk => ⟨rfl, _, hv.kk hkk, hw⟩)⟩)
theorem pr_stick {u : Mem} {a b : Int32} (h : Inv u) : Pr g_W_stick g_M_stick [.inl a, .inl b] u false := by
  obtain ⟨A, hc, hm⟩ := h
  exact c_W_stick (d := 34) hc (fun v hv hk => ⟨_, rfl, ⟨_, rfl⟩, c_M_stick (d := 34) (hm.km hk) (fun w hw hkk => ⟨rfl, _, hv.kk hkk, hw⟩)⟩)
theorem pr_seen {u : Mem} {a b c : Int32} (h : Inv u) : Pr g_W_seen g_M_seen [.inl a, .inl b, .inl c] u false := by
  obtain ⟨A, hc, hm⟩ := h
  exact c_W_seen (d := 38) hc (fun v hv hk => ⟨_, rfl, ⟨_, rfl⟩, c_M_seen (d := 37) (hm.km hk) (fun w hw hkk => ⟨rfl, _, hv.kk hkk, hw⟩)⟩)
theorem pr_forget {u : Mem} (h : Inv u) : Pr g_W_forget g_M_forget [] u false := by
  obtain ⟨A, hc, hm⟩ := h
  exact c_W_forget (d := 39) hc (fun v hv hk => ⟨_, rfl, ⟨_, rfl⟩, c_M_forget (d := 39) (hm.km hk) (fun w hw hkk => ⟨rfl, _, hv.kk hkk, hw⟩)⟩)
theorem pr_never {u : Mem} (h : Inv u) : Pr g_W_never g_M_never [] u false := by
  obtain ⟨A, hc, hm⟩ := h
  exact c_W_never (d := 35) hc (fun v hv hk => ⟨_, rfl, ⟨_, rfl⟩, c_M_never (d := 34) (hm.km hk) (fun w hw hkk => ⟨rfl, _, hv.kk hkk, hw⟩)⟩)
theorem pr_was {u : Mem} {a b : Int32} (h : Inv u) : Pr g_W_was g_M_was [.inl a, .inl b] u false := by
  obtain ⟨A, hc, hm⟩ := h
  exact c_W_was (d := 34) hc (fun v hv hk => ⟨_, rfl, ⟨_, rfl⟩, c_M_was (d := 33) (hm.km hk) (fun w hw hkk => ⟨rfl, _, hv.kk hkk, hw⟩)⟩)
theorem pr_ask {u : Mem} {a : Int32} (h : Inv u) : Pr g_W_ask g_M_ask [.inl a] u false := by
  obtain ⟨A, hc, hm⟩ := h
  exact c_W_ask (d := 34) hc (fun v hv hk => ⟨_, rfl, ⟨_, rfl⟩, c_M_ask (d := 33) (hm.km hk) (fun w hw hkk => ⟨rfl, _, hv.kk hkk, hw⟩)⟩)
theorem pr_shower {u : Mem} {a b c d : Int32} (h : Inv u) : Pr g_W_shower g_M_shower [.inl a, .inl b, .inl c, .inl d] u true := by
  obtain ⟨A, hc, hm⟩ := h
  exact c_W_shower (d := 12) hc (fun v hv hk => ⟨_, rfl, ⟨_, rfl⟩, c_M_shower (d := 34) (hm.km hk) (fun w hw hkk => ⟨rfl, _, hv.kk hkk, hw⟩)⟩)
theorem pr_season {u : Mem} {a b c : Int32} (h : Inv u) : Pr g_W_season g_M_season [.inl a, .inl b, .inl c] u false := by
  obtain ⟨A, hc, hm⟩ := h
  exact c_W_season (d := 34) hc (fun v hv hk => ⟨_, rfl, ⟨_, rfl⟩, c_M_season (d := 34) (hm.km hk) (fun w hw hkk => ⟨rfl, _, hv.kk hkk, hw⟩)⟩)
theorem pr_sheet {u : Mem} {a b c : Int32} (h : Inv u) : Pr g_W_sheet g_M_sheet [.inl a, .inl b, .inl c] u false := by
  obtain ⟨A, hc, hm⟩ := h
  exact c_W_sheet (d := 37) hc (fun v hv hk => ⟨_, rfl, ⟨_, rfl⟩, c_M_sheet (d := 37) (hm.km hk) (fun w hw hkk => ⟨rfl, _, hv.kk hkk, hw⟩)⟩)
theorem pr_lose {u : Mem} {a : Int32} (h : Inv u) : Pr g_W_lose g_M_lose [.inl a] u false := by
  obtain ⟨A, hc, hm⟩ := h
  exact c_W_lose (d := 38) hc (fun v hv hk => ⟨_, rfl, ⟨_, rfl⟩, c_M_lose (d := 37) (hm.km hk) (fun w hw hkk => ⟨rfl, _, hv.kk hkk, hw⟩)⟩)
theorem pr_lay {u : Mem} {a b c d : Int32} (h : Inv u) : Pr g_W_lay g_M_lay [.inl a, .inl b, .inl c, .inl d] u false := by
  obtain ⟨A, hc, hm⟩ := h
  exact c_W_lay (d := 37) hc (fun v hv hk => ⟨_, rfl, ⟨_, rfl⟩, c_M_lay (d := 37) (hm.km hk) (fun w hw hkk => ⟨rfl, _, hv.kk hkk, hw⟩)⟩)
theorem pr_get {u : Mem} {a b c : Int32} (h : Inv u) : Pr g_W_get g_M_get [.inl a, .inl b, .inl c] u false := by
  obtain ⟨A, hc, hm⟩ := h
  exact c_W_get (d := 37) hc (fun v hv hk => ⟨_, rfl, ⟨_, rfl⟩, c_M_get (d := 37) (hm.km hk) (fun w hw hkk => ⟨rfl, _, hv.kk hkk, hw⟩)⟩)
theorem pr_copy {u : Mem} {a b c d e : Int32} (h : Inv u) : Pr g_W_copy g_M_copy [.inl a, .inl b, .inl c, .inl d, .inl e] u false := by
  obtain ⟨A, hc, hm⟩ := h
  exact c_W_copy (d := 38) hc (fun v hv hk => ⟨_, rfl, ⟨_, rfl⟩, c_M_copy (d := 37) (hm.km hk) (fun w hw hkk => ⟨rfl, _, hv.kk hkk, hw⟩)⟩)
theorem pr_write {u : Mem} {a b : Int32} (h : Inv u) : Pr g_W_write g_M_write [.inl a, .inl b] u false := by
  obtain ⟨A, hc, hm⟩ := h
  exact c_W_write (d := 35) hc (fun v hv hk => ⟨_, rfl, ⟨_, rfl⟩, c_M_write (d := 34) (hm.km hk) (fun w hw hkk => ⟨rfl, _, hv.kk hkk, hw⟩)⟩)
theorem pr_count {u : Mem} {a : Int32} (h : Inv u) : Pr g_W_count g_M_count [.inl a] u false := by
  obtain ⟨A, hc, hm⟩ := h
  exact c_W_count (d := 39) hc ⟨_, rfl, ⟨_, rfl⟩, c_M_count (d := 34) hm (fun w hw hkk => ⟨rfl, _, hc.kk hkk, hw⟩)⟩
theorem pr_digest {u : Mem} (h : Inv u) : Pr g_W_digest g_M_digest [] u true := by
  obtain ⟨A, hc, hm⟩ := h
  exact c_W_digest (d := 12) hc (fun v hv hk => ⟨_, rfl, ⟨_, rfl⟩, c_M_digest (d := 32) (hm.km hk) (fun w hw hkk => ⟨rfl, _, hv.kk hkk, hw⟩)⟩)
