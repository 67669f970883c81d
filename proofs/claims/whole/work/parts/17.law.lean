/-! THE CLAIM OUT OF ONE WALK OF THE LAW'S BODY. Your part is whole_start (and what it stands on); all else here is the same for every law, but numbers. -/
def R_law : String := "BasketCapLaw"
def lw_P (b : Addr) (xs : List Int32) (args : Array Value) (s : State) : Prop := args = #[.ref b] ∧ s.IntsAt b xs ∧ xs.length ≤ 3072 ∧ (Jvm.Cond.and given_1 narrow_1).before args s = true
def lw_Q (_ : Array Value) (s : State) (o : Outcome) (t : State) : Prop := o = .returned (some (.int 1)) ∧ Framed s o t [] 601024 7293034
def lw_Z (below : List Frame) (a : Array Value) (s : State) : State → Prop := fun t => ∃ o, t.status = .running ∧ Ended t below o ∧ lw_Q a s o t
/-- the law's own end, with 1 on the stack, nothing written that was there before, its room as the claim has it -/
theorem lw_ret {p : Program} {l : Launch} {e : Env} {s : State} {m : MethodId} {below : List Frame} {meth : Method} {c : Code} {b : Nat} (hx : p.tables.exec = Jvm.exec) (hb : c.code = code) (hr : meth.sig.returnType = ret) (hlocks : meth.locks = false) {pc : Nat} {H : Heap} {ls : Array Slot} (hdg : decode code pc = .ok (.ireturn, 1)) : W p l e room_1 s m #[Value.ref b] below meth c H [] 601024 7293034 (lw_Z below #[Value.ref b] s) (F0 m pc ls [.int 1]) := by
  intro T hT X
  obtain ⟨fs, hret, hrun, hended, hW, hframe⟩ := X.leave (v := some (.int 1)) (hlocks := hlocks) (fun h => by rw [hr] at h; cases h)
  have hmeth' : T.vm.method? m = some meth := X.method'
  refine ⟨T.setFrames fs, ?_, .returned (some (.int 1)), hrun, hended, rfl, ⟨_, rfl⟩, hW, hframe⟩
  jvm_step X.here [X.here.top, hx, hb, hdg, hmeth', hr, ret, narrow_b1]
  (try refine ⟨rfl, ?_⟩); (try refine ⟨rfl, ?_⟩)
  first | (intro acts; rw [hret _ acts rfl rfl rfl]) | rw [hret _ _ rfl rfl rfl]
  exact Steps.refl _
/-- what holds at the law's entry: the machine, the code, the tables' words (any of lw_tbl by 'hts w (by decide +kernel)'), the script of L ints xs at the cell b, what the Statement gives of the start (any of its parts by flat_of_before) -/
def lw_At (p : Program) (s : State) (m : MethodId) (meth : Method) (c : Code) (b L : Nat) (xs : Nat → Int32) : Prop :=
  p.tables.exec = Jvm.exec ∧ c.code = code ∧ meth.sig.returnType = ret ∧ c.maxLocals = 7 ∧ s.vm.findClass R_law = some m.cls ∧ (∀ w ∈ lw_tbl, w.before #[Value.ref b] s = true) ∧ va_X b L xs s s.heap ∧ b < s.heap.size ∧ meth.locks = false ∧ (Jvm.Cond.and given_1 narrow_1).before #[Value.ref b] s = true
/-! what the pure part owes of each call: the class and the reference answer alike, and Inv stays -/
def Sp_feed (Inv : Sto → Sto → Prop) : Prop := ∀ (σC σM : Sto) (a0 a1 a2 a3 a4 : Int32), Inv σC σM → ∃ (v : Int32) (τC τM : Sto), F_X11_feed σC a0 a1 a2 a3 a4 = some (v, τC) ∧ F_X12_feed σM a0 a1 a2 a3 a4 = some (v, τM) ∧ Inv τC τM
def Sp_text (Inv : Sto → Sto → Prop) : Prop := ∀ (σC σM : Sto) (a0 : Int32), Inv σC σM → ∃ (v : Int32) (τC τM : Sto), F_X11_text σC a0 = some (v, τC) ∧ F_X12_text σM a0 = some (v, τM) ∧ Inv τC τM
def Sp_fault (Inv : Sto → Sto → Prop) : Prop := ∀ (σC σM : Sto), Inv σC σM → ∃ (v : Int32) (τM : Sto), F_X11_fault σC  = some v ∧ F_X12_fault σM  = some (v, τM) ∧ Inv σC τM
def Sp_where (Inv : Sto → Sto → Prop) : Prop := ∀ (σC σM : Sto), Inv σC σM → ∃ (v : Int32) (τM : Sto), F_X11_where σC  = some v ∧ F_X12_where σM  = some (v, τM) ∧ Inv σC τM
def Sp_about (Inv : Sto → Sto → Prop) : Prop := ∀ (σC σM : Sto) (a0 : Int32), Inv σC σM → ∃ (v : Int32) (τC τM : Sto), F_X11_about σC a0 = some (v, τC) ∧ F_X12_about σM a0 = some (v, τM) ∧ Inv τC τM
def Sp_service (Inv : Sto → Sto → Prop) : Prop := ∀ (σC σM : Sto) (a0 a1 : Int32), Inv σC σM → ∃ (v : Int32) (τC τM : Sto), F_X11_service σC a0 a1 = some (v, τC) ∧ F_X12_service σM a0 a1 = some (v, τM) ∧ Inv τC τM
def Sp_rule (Inv : Sto → Sto → Prop) : Prop := ∀ (σC σM : Sto) (a0 : Int32), Inv σC σM → ∃ (v : Int32) (τC τM : Sto), F_X11_rule σC a0 = some (v, τC) ∧ F_X12_rule σM a0 = some (v, τM) ∧ Inv τC τM
def Sp_carried (Inv : Sto → Sto → Prop) : Prop := ∀ (σC σM : Sto) (a0 : Int32), Inv σC σM → ∃ (v : Int32) (τC τM : Sto), F_X11_carried σC a0 = some (v, τC) ∧ F_X12_carried σM a0 = some (v, τM) ∧ Inv τC τM
def Sp_bought (Inv : Sto → Sto → Prop) : Prop := ∀ (σC σM : Sto) (a0 a1 : Int32), Inv σC σM → ∃ (v : Int32) (τC τM : Sto), F_X11_bought σC a0 a1 = some (v, τC) ∧ F_X12_bought σM a0 a1 = some (v, τM) ∧ Inv τC τM
def Sp_profit (Inv : Sto → Sto → Prop) : Prop := ∀ (σC σM : Sto) (a0 a1 : Int32), Inv σC σM → ∃ (v : Int32) (τC τM : Sto), F_X11_profit σC a0 a1 = some (v, τC) ∧ F_X12_profit σM a0 a1 = some (v, τM) ∧ Inv τC τM
def Sp_good (Inv : Sto → Sto → Prop) : Prop := ∀ (σC σM : Sto) (a0 a1 : Int32), Inv σC σM → ∃ (v : Int32) (τC τM : Sto), F_X11_good σC a0 a1 = some (v, τC) ∧ F_X12_good σM a0 a1 = some (v, τM) ∧ Inv τC τM
def Sp_most (Inv : Sto → Sto → Prop) : Prop := ∀ (σC σM : Sto) (a0 : Int32), Inv σC σM → ∃ (v : Int32) (τC τM : Sto), F_X11_most σC a0 = some (v, τC) ∧ F_X12_most σM a0 = some (v, τM) ∧ Inv τC τM
def Sp_free (Inv : Sto → Sto → Prop) : Prop := ∀ (σC σM : Sto) (a0 : Int32), Inv σC σM → ∃ (v : Int32) (τC τM : Sto), F_X11_free σC a0 = some (v, τC) ∧ F_X12_free σM a0 = some (v, τM) ∧ Inv τC τM
def Sp_best (Inv : Sto → Sto → Prop) : Prop := ∀ (σC σM : Sto), Inv σC σM → ∃ (v : Int32) (τC τM : Sto), F_X11_best σC  = some (v, τC) ∧ F_X12_best σM  = some (v, τM) ∧ Inv τC τM
def Sp_bestOf (Inv : Sto → Sto → Prop) : Prop := ∀ (σC σM : Sto) (a0 : Int32), Inv σC σM → ∃ (v : Int32) (τC τM : Sto), F_X11_bestOf σC a0 = some (v, τC) ∧ F_X12_bestOf σM a0 = some (v, τM) ∧ Inv τC τM
def Sp_fair (Inv : Sto → Sto → Prop) : Prop := ∀ (σC σM : Sto), Inv σC σM → ∃ (v : Int32) (τC τM : Sto), F_X11_fair σC  = some (v, τC) ∧ F_X12_fair σM  = some (v, τM) ∧ Inv τC τM
def Sp_fairOf (Inv : Sto → Sto → Prop) : Prop := ∀ (σC σM : Sto) (a0 : Int32), Inv σC σM → ∃ (v : Int32) (τC τM : Sto), F_X11_fairOf σC a0 = some (v, τC) ∧ F_X12_fairOf σM a0 = some (v, τM) ∧ Inv τC τM
def Sp_rows (Inv : Sto → Sto → Prop) : Prop := ∀ (σC σM : Sto), Inv σC σM → ∃ (v : Int32) (τC τM : Sto), F_X11_rows σC  = some (v, τC) ∧ F_X12_rows σM  = some (v, τM) ∧ Inv τC τM
def Sp_freely (Inv : Sto → Sto → Prop) : Prop := ∀ (σC σM : Sto) (a0 : Int32), Inv σC σM → ∃ (v : Int32) (τC τM : Sto), F_X11_freely σC a0 = some (v, τC) ∧ F_X12_freely σM a0 = some (v, τM) ∧ Inv τC τM
def Sp_game (Inv : Sto → Sto → Prop) : Prop := ∀ (σC σM : Sto) (a0 : Int32), Inv σC σM → ∃ (v : Int32) (τC τM : Sto), F_X11_game σC a0 = some (v, τC) ∧ F_X12_game σM a0 = some (v, τM) ∧ Inv τC τM
def Sp_path (Inv : Sto → Sto → Prop) : Prop := ∀ (σC σM : Sto) (a0 a1 : Int32), Inv σC σM → ∃ (v : Int32) (τC τM : Sto), F_X11_path σC a0 a1 = some (v, τC) ∧ F_X12_path σM a0 a1 = some (v, τM) ∧ Inv τC τM
def Sp_buyer (Inv : Sto → Sto → Prop) : Prop := ∀ (σC σM : Sto) (a0 a1 : Int32), Inv σC σM → ∃ (v : Int32) (τC τM : Sto), F_X11_buyer σC a0 a1 = some (v, τC) ∧ F_X12_buyer σM a0 a1 = some (v, τM) ∧ Inv τC τM
def Sp_units (Inv : Sto → Sto → Prop) : Prop := ∀ (σC σM : Sto) (a0 a1 : Int32), Inv σC σM → ∃ (v : Int32) (τC τM : Sto), F_X11_units σC a0 a1 = some (v, τC) ∧ F_X12_units σM a0 a1 = some (v, τM) ∧ Inv τC τM
def Sp_hurt (Inv : Sto → Sto → Prop) : Prop := ∀ (σC σM : Sto), Inv σC σM → ∃ (v : Int32) (τC τM : Sto), F_X11_hurt σC  = some (v, τC) ∧ F_X12_hurt σM  = some (v, τM) ∧ Inv τC τM
def Sp_hardest (Inv : Sto → Sto → Prop) : Prop := ∀ (σC σM : Sto), Inv σC σM → ∃ (v : Int32) (τC τM : Sto), F_X11_hardest σC  = some (v, τC) ∧ F_X12_hardest σM  = some (v, τM) ∧ Inv τC τM
def Sp_gentle (Inv : Sto → Sto → Prop) : Prop := ∀ (σC σM : Sto), Inv σC σM → ∃ (v : Int32) (τC τM : Sto), F_X11_gentle σC  = some (v, τC) ∧ F_X12_gentle σM  = some (v, τM) ∧ Inv τC τM
def Sp_gentleOf (Inv : Sto → Sto → Prop) : Prop := ∀ (σC σM : Sto) (a0 : Int32), Inv σC σM → ∃ (v : Int32) (τC τM : Sto), F_X11_gentleOf σC a0 = some (v, τC) ∧ F_X12_gentleOf σM a0 = some (v, τM) ∧ Inv τC τM
def Sp_steady (Inv : Sto → Sto → Prop) : Prop := ∀ (σC σM : Sto) (a0 : Int32), Inv σC σM → ∃ (v : Int32) (τC τM : Sto), F_X11_steady σC a0 = some (v, τC) ∧ F_X12_steady σM a0 = some (v, τM) ∧ Inv τC τM
def Sp_steadyOf (Inv : Sto → Sto → Prop) : Prop := ∀ (σC σM : Sto) (a0 a1 : Int32), Inv σC σM → ∃ (v : Int32) (τC τM : Sto), F_X11_steadyOf σC a0 a1 = some (v, τC) ∧ F_X12_steadyOf σM a0 a1 = some (v, τM) ∧ Inv τC τM
def Sp_level (Inv : Sto → Sto → Prop) : Prop := ∀ (σC σM : Sto) (a0 a1 : Int32), Inv σC σM → ∃ (v : Int32) (τC τM : Sto), F_X11_level σC a0 a1 = some (v, τC) ∧ F_X12_level σM a0 a1 = some (v, τM) ∧ Inv τC τM
def Sp_trade (Inv : Sto → Sto → Prop) : Prop := ∀ (σC σM : Sto) (a0 : Int32), Inv σC σM → ∃ (v : Int32) (τC τM : Sto), F_X11_trade σC a0 = some (v, τC) ∧ F_X12_trade σM a0 = some (v, τM) ∧ Inv τC τM
def Sp_reach (Inv : Sto → Sto → Prop) : Prop := ∀ (σC σM : Sto) (a0 : Int32), Inv σC σM → ∃ (v : Int32) (τC τM : Sto), F_X11_reach σC a0 = some (v, τC) ∧ F_X12_reach σM a0 = some (v, τM) ∧ Inv τC τM
def Sp_next (Inv : Sto → Sto → Prop) : Prop := ∀ (σC σM : Sto), Inv σC σM → ∃ (v : Int32) (τC τM : Sto), F_X11_next σC  = some (v, τC) ∧ F_X12_next σM  = some (v, τM) ∧ Inv τC τM
def Sp_gains (Inv : Sto → Sto → Prop) : Prop := ∀ (σC σM : Sto) (a0 : Int32), Inv σC σM → ∃ (v : Int32) (τC τM : Sto), F_X11_gains σC a0 = some (v, τC) ∧ F_X12_gains σM a0 = some (v, τM) ∧ Inv τC τM
def Sp_share (Inv : Sto → Sto → Prop) : Prop := ∀ (σC σM : Sto) (a0 a1 : Int32), Inv σC σM → ∃ (v : Int32) (τC τM : Sto), F_X11_share σC a0 a1 = some (v, τC) ∧ F_X12_share σM a0 a1 = some (v, τM) ∧ Inv τC τM
def Sp_write (Inv : Sto → Sto → Prop) : Prop := ∀ (σC σM : Sto), Inv σC σM → ∃ (v : Int32) (τC τM : Sto), F_X11_write σC  = some (v, τC) ∧ F_X12_write σM  = some (v, τM) ∧ Inv τC τM
def Sp_octet (Inv : Sto → Sto → Prop) : Prop := ∀ (σC σM : Sto) (a0 : Int32), Inv σC σM → ∃ (r : Option Int32) (z : Int32 × Sto) (w : Int32), F_X11_octet σC a0 = some r ∧ F_X12_octet σM a0 = some z ∧ F_X12_thrown z.2 = some w ∧ ((r = none ∧ w = 1) ∨ (r = some z.1 ∧ w = 0)) ∧ Inv σC z.2
def Sp_price (Inv : Sto → Sto → Prop) : Prop := ∀ (σC σM : Sto) (a0 a1 : Int32), Inv σC σM → ∃ (v : Int32) (τC τM : Sto), F_X11_price σC a0 a1 = some (v, τC) ∧ F_X12_price σM a0 a1 = some (v, τM) ∧ Inv τC τM
def Sp_lay (Inv : Sto → Sto → Prop) : Prop := ∀ (σC σM : Sto) (a0 : Int32), (a0 = 0 ∨ a0 = 1) → Inv σC σM → ∃ (v : Int32) (τC τM : Sto), F_X11_lay σC a0 = some (v, τC) ∧ F_X12_lay σM a0 = some (v, τM) ∧ Inv τC τM
def Sp_quality (Inv : Sto → Sto → Prop) : Prop := ∀ (σC σM : Sto) (a0 a1 : Int32), Inv σC σM → ∃ (v : Int32) (τC τM : Sto), F_X11_quality σC a0 a1 = some (v, τC) ∧ F_X12_quality σM a0 a1 = some (v, τM) ∧ Inv τC τM
def Sp_become (Inv : Sto → Sto → Prop) : Prop := ∀ (σC σM : Sto) (a0 a1 : Int32), Inv σC σM → ∃ (v : Int32) (τC τM : Sto), F_X11_become σC a0 a1 = some (v, τC) ∧ F_X12_become σM a0 a1 = some (v, τM) ∧ Inv τC τM
def Sp_year (Inv : Sto → Sto → Prop) : Prop := ∀ (σC σM : Sto) (a0 : Int32), (a0 = 0 ∨ a0 = 1) → Inv σC σM → ∃ (v : Int32) (τC τM : Sto), F_X11_year σC a0 = some (v, τC) ∧ F_X12_year σM a0 = some (v, τM) ∧ Inv τC τM
def Sp_undo (Inv : Sto → Sto → Prop) : Prop := ∀ (σC σM : Sto), Inv σC σM → ∃ (v : Int32) (τC τM : Sto), F_X11_undo σC  = some (v, τC) ∧ F_X12_undo σM  = some (v, τM) ∧ Inv τC τM
def Sp_keep (Inv : Sto → Sto → Prop) : Prop := ∀ (σC σM : Sto) (a0 : Int32), Inv σC σM → ∃ (v : Int32) (τC τM : Sto), F_X11_keep σC a0 = some (v, τC) ∧ F_X12_keep σM a0 = some (v, τM) ∧ Inv τC τM
def Sp_back (Inv : Sto → Sto → Prop) : Prop := ∀ (σC σM : Sto) (a0 : Int32), Inv σC σM → ∃ (v : Int32) (τC τM : Sto), F_X11_back σC a0 = some (v, τC) ∧ F_X12_back σM a0 = some (v, τM) ∧ Inv τC τM
def Sp_book (Inv : Sto → Sto → Prop) : Prop := ∀ (σC σM : Sto) (a0 a1 : Int32), Inv σC σM → ∃ (v : Int32) (τC τM : Sto), F_X11_book σC a0 a1 = some (v, τC) ∧ F_X12_book σM a0 a1 = some (v, τM) ∧ Inv τC τM
def Sp_letter (Inv : Sto → Sto → Prop) : Prop := ∀ (σC σM : Sto) (a0 a1 : Int32), Inv σC σM → ∃ (r : Option Int32) (z : Int32 × Sto) (w : Int32), F_X11_letter σC a0 a1 = some r ∧ F_X12_letter σM a0 a1 = some z ∧ F_X12_thrown z.2 = some w ∧ ((r = none ∧ w = 1) ∨ (r = some z.1 ∧ w = 0)) ∧ Inv σC z.2
def Sp_bytes (Inv : Sto → Sto → Prop) : Prop := ∀ (σC σM : Sto), Inv σC σM → ∃ (v : Int32) (τM : Sto), F_X11_bytes σC  = some v ∧ F_X12_bytes σM  = some (v, τM) ∧ Inv σC τM
def Sp_trouble (Inv : Sto → Sto → Prop) : Prop := ∀ (σC σM : Sto), Inv σC σM → ∃ (v : Int32) (τM : Sto), F_X11_trouble σC  = some v ∧ F_X12_trouble σM  = some (v, τM) ∧ Inv σC τM
/-! the law's world: the class's cells, the reference's, the cell for an answer -/
def lG (D : va_G) (ci : Nat → ClassId) (tx : Nat → Nat) (b0 b1 : Nat) : Gv := (D, ci, (b0, b1), tx)
def LH (GC GM : Gv) (σC σM : Sto) (f : Nat → Int64) (H : Heap) : Prop := Hd GC shC νC (ovC σC) H ∧ Hd GM shM νM (ovM σM) H ∧ va_P GC.1 vwCl (oW GC GM.2.2.1.2 f) H
/-- the law's run: its start, and where the worlds lie -/
def LC (p : Program) (l : Launch) (s : State) (m : MethodId) (meth : Method) (c : Code) (b L : Nat) (xs : Nat → Int32) (GC GM : Gv) : Prop :=
  lw_At p s m meth c b L xs ∧ L ≤ 3072 ∧ l.stackTraces = false ∧ (∃ (D : va_G) (ci : Nat → ClassId) (tx : Nat → Nat), GC = lG D ci tx s.heap.size (s.heap.size + 134) ∧ GM = lG D ci tx (s.heap.size + 134) (s.heap.size + 153) ∧ va_K D vwCl (tyl (lG D ci tx s.heap.size 0)) s ∧ Ex (lG D ci tx s.heap.size 0) s s.heap) ∧ ExT (fun q => s.heap.size ≤ q) s s.heap
theorem Ex.narrow {D : va_G} {ci : Nat → ClassId} {tx : Nat → Nat} {b b0 b1 : Nat} {U : State} {H : Heap} (h : Ex (lG D ci tx b 0) U H) (hb : b ≤ b0) : Ex (lG D ci tx b0 b1) U H := by
  have hA : ∀ q, gA (lG D ci tx b0 b1) q → gA (lG D ci tx b 0) q := fun q hq => ⟨Nat.le_trans hb hq.1, Or.inl rfl⟩
  obtain ⟨h1, h2, h3, h4, h5, h6, h7⟩ := h
  exact ⟨h1.narrow hA, h2, h3.narrow hA, h4, h5, h6, h7.imp (fun z => z.narrow hA) (fun z => z.narrow hA)⟩
section LAW
variable {p : Program} {l : Launch} {e : Env} {s : State} {m : MethodId} {below : List Frame} {meth : Method} {c : Code} {b L : Nat} {xs : Nat → Int32} {GC GM : Gv} {args : Array Value}
theorem LC.bC (C : LC p l s m meth c b L xs GC GM) : GC.2.2.1 = (s.heap.size, s.heap.size + 134) := by
  obtain ⟨-, -, -, ⟨D, ci, tx, e1, -⟩, -⟩ := C
  rw [e1]; rfl
theorem LC.bM (C : LC p l s m meth c b L xs GC GM) : GM.2.2.1 = (s.heap.size + 134, s.heap.size + 153) := by
  obtain ⟨-, -, -, ⟨D, ci, tx, -, e2, -⟩, -⟩ := C
  rw [e2]; rfl
theorem LC.t (C : LC p l s m meth c b L xs GC GM) : ∀ w ∈ WS, w.before #[Value.ref b] s = true := fun w hw => C.1.2.2.2.2.2.1 w (ws_tbl w hw)
theorem LC.cwC (C : LC p l s m meth c b L xs GC GM) {H : Heap} {locs : List Loc} {U : State} (hS : va_S (fun q => s.heap.size ≤ q) s.heap H locs) (hU : U.heap = H) (hW : s.WarmedH U.vm) : Cw GC U := by
  obtain ⟨-, -, -, ⟨D, ci, tx, e1, e2, hK, hE⟩, -⟩ := C
  subst e1
  have hS0 : va_S (gA (lG D ci tx s.heap.size 0)) s.heap H locs := ⟨hS.1, fun q h1 h2 => hS.2.1 q h1 (fun h => h2 ⟨h, Or.inl rfl⟩), fun q hq => ⟨hS.2.2 q hq, Or.inl rfl⟩⟩
  exact ⟨va_K.moved hW.alike hK, Ex.narrow (hE.on hS0 hU hW) (Nat.le_refl _), by rw [hU]; exact hS.1⟩
theorem LC.cwM (C : LC p l s m meth c b L xs GC GM) {H : Heap} {locs : List Loc} {U : State} (hz : s.heap.size + 134 ≤ H.size) (hS : va_S (fun q => s.heap.size ≤ q) s.heap H locs) (hU : U.heap = H) (hW : s.WarmedH U.vm) : Cw GM U := by
  obtain ⟨-, -, -, ⟨D, ci, tx, e1, e2, hK, hE⟩, -⟩ := C
  subst e2
  have hS0 : va_S (gA (lG D ci tx s.heap.size 0)) s.heap H locs := ⟨hS.1, fun q h1 h2 => hS.2.1 q h1 (fun h => h2 ⟨h, Or.inl rfl⟩), fun q hq => ⟨hS.2.2 q hq, Or.inl rfl⟩⟩
  exact ⟨va_K.moved hW.alike hK, Ex.narrow (hE.on hS0 hU hW) (Nat.le_add_right _ _), by rw [hU]; exact hz⟩
theorem LC.same (C : LC p l s m meth c b L xs GC GM) : GM.1 = GC.1 ∧ GM.2.1 = GC.2.1 := by
  obtain ⟨-, -, -, ⟨D, ci, tx, e1, e2, -⟩, -⟩ := C
  rw [e1, e2]; exact ⟨rfl, rfl⟩
theorem LC.K (C : LC p l s m meth c b L xs GC GM) : va_K GC.1 vwCl (tyl GC) s := by
  obtain ⟨-, -, -, ⟨D, ci, tx, e1, e2, hK, -⟩, -⟩ := C
  rw [e1]; exact hK
theorem LC.KM (C : LC p l s m meth c b L xs GC GM) : va_K GM.1 vwCl (tyl GM) s := by
  obtain ⟨-, -, -, ⟨D, ci, tx, e1, e2, hK, -⟩, -⟩ := C
  rw [e2]; exact hK
variable {H : Heap} {locs : List Loc} {cells slots : Nat} {Q : State → Prop} {pc : Nat} {ls : Array Slot} {σC σM τC τM : Sto} {f : Nat → Int64}
theorem lw_cC (C : LC p l s m meth c b L xs GC GM) {y : MethodName} {bytes : ByteArray} {maxL fr n index : Nat} {ret : Option FieldType} {vs stk rest : List Value} {v : Int32} (hM : Con l y bytes maxL ret fr GC shC νC (.ref 0 :: vs) (ovC σC) (some (.int v)) (ovC τC)) (hi : MI y bytes maxL ret n) (hi2 : MV y 11) (hl : Cond.methodLink RL index y ∈ WS) (d : decode code pc = .ok (.invokevirtual index, 3)) (hn : vs.length = n) (hv : vs.map (cv GC) = vs) (hR : fr + 1 ≤ 2048 ∧ 8 + (maxL + 11) + 64 * fr ≤ 84000) (hst : (rest.map fun v => v.category).sum ≤ 8) (hc : cells ≤ 601024 ∧ slots ≤ 7293034) (hs : stk = vs.reverse ++ .ref s.heap.size :: rest) (hH : LH GC GM σC σM f H) (hS : va_S (fun q => s.heap.size ≤ q) s.heap H locs) (hls : ls.size = 7)
    (k : ∀ (H1 : Heap) (locs1 : List Loc), LH GC GM τC σM f H1 → va_S (fun q => s.heap.size ≤ q) s.heap H1 locs1 → W p l e room_1 s m #[Value.ref b] below meth c H1 locs1 cells slots Q (F0 m (pc + 3) ls (.int v :: rest))) : W p l e room_1 s m #[Value.ref b] below meth c H locs cells slots Q (F0 m pc ls stk) := by
  subst hs
  obtain ⟨hx, hb, hr, hml, hown, hts, hX, hbl, hlocks, hgv⟩ := id C.1
  have hb0 : GC.2.2.1.1 = s.heap.size := by rw [C.bC]
  have hb1 : GC.2.2.1.2 = s.heap.size + 134 := by rw [C.bC]
  have hm0 : GM.2.2.1.1 = s.heap.size + 134 := by rw [C.bM]
  have hm1 : GM.2.2.1.2 = s.heap.size + 153 := by rw [C.bM]
  obtain ⟨i1, i2, i3, i4⟩ := id hi
  obtain ⟨j1, j2, j3, T9, N9, j4⟩ := hi2
  obtain ⟨hHC, hHM, hHO⟩ := hH
  have he : (wl GC shC νC.1 (ovC σC))[0]? = some (s.heap.size, .inr (11, fl GC.2.2.1.1 ((ovC σC).1 0) ((ovC σC).2.1 0) ((ovC σC).2.2 0) 11)) := by
    rw [wl_at (show 0 < νC.1 from by decide), ce_at kC_0, cer_o (by decide), hb0]; rfl
  have hvs : (Value.ref 0 :: vs).map (cv GC) = Value.ref s.heap.size :: vs := by
    rw [List.map_cons, hv]
    show Value.ref (GC.2.2.1.1 + 0) :: vs = _
    rw [hb0, Nat.add_zero]
  have hrun := va_runV (C := y.cls) (b := s.heap.size) (As := vs) (rest := rest) (n := n) (g := F0 m pc ls (vs.reverse ++ Value.ref s.heap.size :: rest)) (H := H) (locs := locs) (cells := cells) (slots := slots) (p := p) (l := l) (e := e) (R := room_1) (below := below) (meth := meth) (Ts := WS) (own := RL) (index := index) (nL := 7) (cc := code) ⟨hx, hb, hml, hown, C.t⟩ hM ⟨callB_of n C.t hi.good rfl rfl rfl (C.t _ i1) (C.t _ hl) i3 hR, C.t _ j1, C.t _ j2⟩ ⟨Con_blind, va_recv C.K hHC.1 j4 he, fun U hU hW => ⟨by rw [hvs], C.cwC hS hU hW, by rw [hU]; exact hHC⟩⟩ rfl hn hls rfl (by show 2 * 0 + _ ≤ 8; omega) d hc
  intro T hT X
  obtain ⟨v9, st₀, t, T', L9, h0, X', hL, e1, e2, ⟨hv9, hH', hF1, hF2⟩, st⟩ := hrun T hT X
  have hv9 : v9 = some (.int v) := Outcome.returned.inj hv9
  subst hv9
  rw [h0] at hF1 hF2
  have hsz : s.heap.size + 153 ≤ H.size := by have := hHM.2.2.1; rw [hm0] at this; exact this
  have keep : ∀ q : Nat, s.heap.size + 134 ≤ q → q < H.size → T'.heap[q]? = H[q]? := fun q h1 h2 => by rw [e1]; exact hF2 q h2 (fun h => h.2.elim (fun z => by omega) (fun z => by omega))
  have hA : ∀ q, gA GC q → s.heap.size ≤ q := fun q h => by have := h.1; rw [hb0] at this; exact this
  obtain ⟨t2, a1, b1⟩ := k T'.heap (locs ++ L9) ⟨by rw [e1]; exact hH', hHM.grow (by rw [e1]; exact hF1) (fun q h1 h2 => keep q (by omega) (by have : (19 : Nat) = 19 := rfl; omega)), fun k9 x hk => (hHO k9 x hk).kept (by
      have a9 : k9 < 1 := (List.getElem?_eq_some_iff.mp hk).1
      rw [show k9 = 0 by omega] at hk
      cases hk
      exact keep _ (by omega) (hHO 0 _ rfl).lt)⟩ ⟨Nat.le_trans hS.1 (by rw [e1]; exact hF1), fun q h1 h2 => by rw [e1, hF2 q (Nat.lt_of_lt_of_le h1 hS.1) (fun h => h2 (hA q h))]; exact hS.2.1 q h1 h2, fun q hq => by
      rcases List.mem_append.mp hq with h | h
      · exact hS.2.2 q h
      · exact hA _ (hL q h)⟩ T' rfl X'
  exact ⟨t2, st t2 a1, b1⟩
theorem lw_cM (C : LC p l s m meth c b L xs GC GM) {y : MethodName} {bytes : ByteArray} {maxL fr n index : Nat} {ret : Option FieldType} {vs stk rest : List Value} {v : Int32} (hM : Con l y bytes maxL ret fr GM shM νM (.ref 0 :: vs) (ovM σM) (some (.int v)) (ovM τM)) (hi : MI y bytes maxL ret n) (hi2 : MV y 12) (hl : Cond.methodLink RL index y ∈ WS) (d : decode code pc = .ok (.invokevirtual index, 3)) (hn : vs.length = n) (hv : vs.map (cv GM) = vs) (hR : fr + 1 ≤ 2048 ∧ 8 + (maxL + 11) + 64 * fr ≤ 84000) (hst : (rest.map fun v => v.category).sum ≤ 8) (hc : cells ≤ 601024 ∧ slots ≤ 7293034) (hs : stk = vs.reverse ++ .ref (s.heap.size + 134) :: rest) (hH : LH GC GM σC σM f H) (hS : va_S (fun q => s.heap.size ≤ q) s.heap H locs) (hls : ls.size = 7)
    (k : ∀ (H1 : Heap) (locs1 : List Loc), LH GC GM σC τM f H1 → va_S (fun q => s.heap.size ≤ q) s.heap H1 locs1 → W p l e room_1 s m #[Value.ref b] below meth c H1 locs1 cells slots Q (F0 m (pc + 3) ls (.int v :: rest))) : W p l e room_1 s m #[Value.ref b] below meth c H locs cells slots Q (F0 m pc ls stk) := by
  subst hs
  obtain ⟨hx, hb, hr, hml, hown, hts, hX, hbl, hlocks, hgv⟩ := id C.1
  have hb0 : GC.2.2.1.1 = s.heap.size := by rw [C.bC]
  have hm0 : GM.2.2.1.1 = s.heap.size + 134 := by rw [C.bM]
  have hm1 : GM.2.2.1.2 = s.heap.size + 153 := by rw [C.bM]
  obtain ⟨i1, i2, i3, i4⟩ := id hi
  obtain ⟨j1, j2, j3, T9, N9, j4⟩ := hi2
  obtain ⟨hHC, hHM, hHO⟩ := hH
  have he : (wl GM shM νM.1 (ovM σM))[0]? = some (s.heap.size + 134, .inr (12, fl GM.2.2.1.1 ((ovM σM).1 0) ((ovM σM).2.1 0) ((ovM σM).2.2 0) 12)) := by
    rw [wl_at (show 0 < νM.1 from by decide), ce_at kM_0, cer_o (by decide), hm0]
  have hvs : (Value.ref 0 :: vs).map (cv GM) = Value.ref (s.heap.size + 134) :: vs := by
    rw [List.map_cons, hv]
    show Value.ref (GM.2.2.1.1 + 0) :: vs = _
    rw [hm0, Nat.add_zero]
  have hsz : s.heap.size + 153 ≤ H.size := by have := hHM.2.2.1; rw [hm0] at this; exact this
  have hrun := va_runV (C := y.cls) (b := s.heap.size + 134) (As := vs) (rest := rest) (n := n) (g := F0 m pc ls (vs.reverse ++ Value.ref (s.heap.size + 134) :: rest)) (H := H) (locs := locs) (cells := cells) (slots := slots) (p := p) (l := l) (e := e) (R := room_1) (below := below) (meth := meth) (Ts := WS) (own := RL) (index := index) (nL := 7) (cc := code) ⟨hx, hb, hml, hown, C.t⟩ hM ⟨callB_of n C.t hi.good rfl rfl rfl (C.t _ i1) (C.t _ hl) i3 hR, C.t _ j1, C.t _ j2⟩ ⟨Con_blind, va_recv C.KM hHM.1 j4 he, fun U hU hW => ⟨by rw [hvs], C.cwM (by omega) hS hU hW, by rw [hU]; exact hHM⟩⟩ rfl hn hls rfl (by show 2 * 0 + _ ≤ 8; omega) d hc
  intro T hT X
  obtain ⟨v9, st₀, t, T', L9, h0, X', hL, e1, e2, ⟨hv9, hH', hF1, hF2⟩, st⟩ := hrun T hT X
  have hv9 : v9 = some (.int v) := Outcome.returned.inj hv9
  subst hv9
  rw [h0] at hF1 hF2
  have keep : ∀ q : Nat, (q < s.heap.size + 134 ∨ s.heap.size + 153 ≤ q) → q < H.size → T'.heap[q]? = H[q]? := fun q h1 h2 => by rw [e1]; exact hF2 q h2 (fun h => by have h3 := h.1; rcases h.2 with z | z <;> omega)
  have hA : ∀ q, gA GM q → s.heap.size ≤ q := fun q h => by have := h.1; rw [hm0] at this; omega
  obtain ⟨t2, a1, b1⟩ := k T'.heap (locs ++ L9) ⟨hHC.grow (by rw [e1]; exact hF1) (fun q h1 h2 => keep q (by have : (134 : Nat) = 134 := rfl; omega) (by omega)), by rw [e1]; exact hH', fun k9 x hk => (hHO k9 x hk).kept (by
      have a9 : k9 < 1 := (List.getElem?_eq_some_iff.mp hk).1
      rw [show k9 = 0 by omega] at hk
      cases hk
      exact keep _ (by omega) (hHO 0 _ rfl).lt)⟩ ⟨Nat.le_trans hS.1 (by rw [e1]; exact hF1), fun q h1 h2 => by rw [e1, hF2 q (Nat.lt_of_lt_of_le h1 hS.1) (fun h => h2 (hA q h))]; exact hS.2.1 q h1 h2, fun q hq => by
      rcases List.mem_append.mp hq with h | h
      · exact hS.2.2 q h
      · exact hA _ (hL q h)⟩ T' rfl X'
  exact ⟨t2, st t2 a1, b1⟩
theorem lw_cO (C : LC p l s m meth c b L xs GC GM) {y : MethodName} {bytes : ByteArray} {maxL n index : Nat} {hh : List (Nat × Nat × Nat × Nat)} {vs stk : List Value} {r : Option Int32} (hM : ConO l y bytes maxL hh 7 GC GM.2.2.1.2 vs σC r f) (hi : Cond.codeWith y bytes maxL (some .int) hh ∈ WS ∧ Cond.static y ∈ WS ∧ (y.cls = RL) ∧ (y.cls ≠ "java/lang/invoke/MethodHandle" ∧ y.cls ≠ "java/lang/invoke/VarHandle" ∧ (parseMethodDescriptor y.desc).map (fun d => d.parameters.length) = some n)) (hl : Cond.methodLink RL index y ∈ WS) (d : decode code pc = .ok (.invokestatic index, 3)) (hn : (Value.ref s.heap.size :: vs ++ [Value.ref (s.heap.size + 153)]).length = n) (hmx : maxL ≤ 10) (hc : cells + 1 ≤ 601024 ∧ slots + 6 ≤ 7293034) (hs : stk = (Value.ref s.heap.size :: vs ++ [Value.ref (s.heap.size + 153)]).reverse) (hH : LH GC GM σC σM f H) (hS : va_S (fun q => s.heap.size ≤ q) s.heap H locs) (hls : ls.size = 7)
    (k : ∀ (k9 : Int32) (f9 : Nat → Int64) (H1 : Heap) (locs1 : List Loc), ((r = none ∧ k9 = 1 ∧ f9 = f) ∨ ∃ v : Int32, r = some v ∧ k9 = 0 ∧ f9 0 = v.toInt64) → LH GC GM σC σM f9 H1 → va_S (fun q => s.heap.size ≤ q) s.heap H1 locs1 → W p l e room_1 s m #[Value.ref b] below meth c H1 locs1 (cells + 1) (slots + 6) Q (F0 m (pc + 3) ls [.int k9])) : W p l e room_1 s m #[Value.ref b] below meth c H locs cells slots Q (F0 m pc ls stk) := by
  subst hs
  obtain ⟨hx, hb, hr, hml, hown, hts, hX, hbl, hlocks, hgv⟩ := id C.1
  have hb0 : GC.2.2.1.1 = s.heap.size := by rw [C.bC]
  have hb1 : GC.2.2.1.2 = s.heap.size + 134 := by rw [C.bC]
  have hm0 : GM.2.2.1.1 = s.heap.size + 134 := by rw [C.bM]
  have hm1 : GM.2.2.1.2 = s.heap.size + 153 := by rw [C.bM]
  obtain ⟨i1, i2, i3, i4⟩ := id hi
  obtain ⟨hHC, hHM, hHO⟩ := hH
  have hsz : s.heap.size + 153 ≤ H.size := by have := hHM.2.2.1; rw [hm0] at this; exact this
  have hgood : GoodIn WS (va_wsS RL index y (Cond.codeWith y bytes maxL (some .int) hh :: WS)) := ws_GoodIn (fun w hw => by
    simp only [va_wsS, List.cons_append, List.nil_append, List.mem_cons] at hw
    rcases hw with rfl | rfl | rfl | rfl | hw
    · exact hl
    · exact i2
    · rw [i3]; exact ini_L
    · exact i1
    · exact hw)
  have hAC : ∀ q, gA GC q → s.heap.size ≤ q := fun q h => by have := h.1; rw [hb0] at this; exact this
  have hrun := vx_runSW (As := (Value.ref s.heap.size :: vs ++ [Value.ref (s.heap.size + 153)])) (rest := []) (n := n) (g := F0 m pc ls ((Value.ref s.heap.size :: vs ++ [Value.ref (s.heap.size + 153)]).reverse)) (H := H) (locs := locs) (cells := cells) (slots := slots) (p := p) (l := l) (e := e) (R := room_1) (below := below) (meth := meth) (Ts := WS) (own := RL) (index := index) (nL := 7) (cc := code) ⟨hx, hb, hml, hown, C.t⟩ hM (vx_cwSW n C.t hgood rfl rfl rfl i4 ⟨by show 7 + 1 ≤ 2048; decide, by show 8 + (maxL + 11) + 64 * 7 ≤ 84000; omega⟩) ⟨ConO_blind, fun U hU hW => ⟨by rw [hb0, hm1], ⟨C.cwC hS hU hW, ?_⟩, by rw [hU]; exact hHC, by rw [hU]; exact hHO, fun h => by have := h.2; rw [hb1, hm1] at this; omega⟩⟩ rfl hn hls (by simp) (by show 2 * 0 + 0 ≤ 8; decide) d hc
  · intro T hT X
    obtain ⟨v9, st₀, t, T', L9, h0, X', hL, e1, e2, ⟨k9, f9, hv9, hcase, hH', hO', hF1, hF2⟩, st⟩ := hrun T hT X
    have hv9 : v9 = some (.int k9) := Outcome.returned.inj hv9
    subst hv9
    rw [h0] at hF1 hF2
    have hA : ∀ q, oA GC GM.2.2.1.2 q → s.heap.size ≤ q := fun q h => h.elim (fun z => by omega) (hAC q)
    obtain ⟨t2, a1, b1⟩ := k k9 f9 T'.heap (locs ++ L9) hcase ⟨by rw [e1]; exact hH', hHM.grow (by rw [e1]; exact hF1) (fun q h1 h2 => by
        rw [e1]
        refine hF2 q (by have : (19 : Nat) = 19 := rfl; omega) (fun h => h.elim (fun z => ?_) (fun z => ?_))
        · have : (19 : Nat) = 19 := rfl
          omega
        · have := z.2
          omega), by rw [e1]; exact hO'⟩ ⟨Nat.le_trans hS.1 (by rw [e1]; exact hF1), fun q h1 h2 => by rw [e1, hF2 q (Nat.lt_of_lt_of_le h1 hS.1) (fun h => h2 (hA q h))]; exact hS.2.1 q h1 h2, fun q hq => by
        rcases List.mem_append.mp hq with h | h
        · exact hS.2.2 q h
        · exact hA _ (hL q h)⟩ T' rfl X'
    exact ⟨t2, st t2 a1, b1⟩
  · have hT9 := C.2.2.2.2
    have hT8 := ExT.on hT9 hS hU hW
    exact hT8.narrow hAC
/-- the law's locals -/
abbrev lwL (b n0 : Nat) (x4 : Int32) : List (Nat × Value) := [(0, .ref b), (1, .ref n0), (2, .ref (n0 + 134)), (3, .ref (n0 + 153)), (4, .int x4)]
theorem nI_ad (a k : Nat) : nI a + nI k = nI (a + k) := (Int32.ofNat_add a k).symm
theorem vp_x {i : Nat} {x4 : Int32} (ex : x4 = nI i) (h : i + 6 ≤ L) (hL : L ≤ 3072) {k : Nat} {j : Int32} (hj : j = nI k) (hk : k < 6) : vp_in (x4 + j) L := by
  subst ex; subst hj
  rw [nI_ad]
  exact vp_in_nI (by omega) (by omega)

variable {Inv : Sto → Sto → Prop}
set_option maxRecDepth 100000 in
set_option maxHeartbeats 4000000 in
theorem lc_feed (hSp : Sp_feed Inv) (C : LC p l s m meth c b L xs GC GM) {i : Nat} {x4 : Int32} (ex : x4 = nI i) (hi : i + 6 ≤ L) (hc : cells + 1 ≤ 601024 ∧ slots + 6 ≤ 7293034) (hI : Inv σC σM) (hH : LH GC GM σC σM f H) (hS : va_S (fun q => s.heap.size ≤ q) s.heap H locs) (hl : lv_has ls 7 (lwL b s.heap.size x4))
    (kend : ∀ (σC σM : Sto) (f : Nat → Int64) (H : Heap) (locs : List Loc) (ls : Array Slot), Inv σC σM → LH GC GM σC σM f H → va_S (fun q => s.heap.size ≤ q) s.heap H locs → lv_has ls 7 (lwL b s.heap.size x4) → W p l e room_1 s m #[Value.ref b] below meth c H locs (cells + 1) (slots + 6) Q (F0 m 1643 ls [])) : W p l e room_1 s m #[Value.ref b] below meth c H locs cells slots Q (F0 m 252 ls []) := by
  obtain ⟨hx, hb, hr, hml, hown, hts, hX, hbl, hlocks, hgv⟩ := id C.1
  have hbA : ¬ (fun q : Nat => s.heap.size ≤ q) b := Nat.not_le.mpr hbl
  have hL := C.2.1
  obtain ⟨v, τC, τM, h1, h2, hI2⟩ := hSp σC σM (xs (x4 + 1).toNatClampNeg) (xs (x4 + 2).toNatClampNeg) (xs (x4 + 3).toNatClampNeg) (xs (x4 + 4).toNatClampNeg) (xs (x4 + 5).toNatClampNeg) hI
  refine lv_aload_n hx hb dL_law_252 rfl (lv_at hl 1 rfl) ?_
  refine lv_aload_n hx hb dL_law_253 rfl (lv_at hl 0 rfl) ?_
  refine lv_iload hx hb dL_law_254 (lv_at hl 4 rfl) ?_
  refine lv_iconst (v := 1) hx hb dL_law_256 (by decide) ?_
  refine lv_iadd hx hb dL_law_257 ?_
  refine va_sld hx hb hX hbl hbA hS (vp_x ex hi hL (k := 1) (by decide) (by decide)) dL_law_258 ?_
  refine lv_aload_n hx hb dL_law_259 rfl (lv_at hl 0 rfl) ?_
  refine lv_iload hx hb dL_law_260 (lv_at hl 4 rfl) ?_
  refine lv_iconst (v := 2) hx hb dL_law_262 (by decide) ?_
  refine lv_iadd hx hb dL_law_263 ?_
  refine va_sld hx hb hX hbl hbA hS (vp_x ex hi hL (k := 2) (by decide) (by decide)) dL_law_264 ?_
  refine lv_aload_n hx hb dL_law_265 rfl (lv_at hl 0 rfl) ?_
  refine lv_iload hx hb dL_law_266 (lv_at hl 4 rfl) ?_
  refine lv_iconst (v := 3) hx hb dL_law_268 (by decide) ?_
  refine lv_iadd hx hb dL_law_269 ?_
  refine va_sld hx hb hX hbl hbA hS (vp_x ex hi hL (k := 3) (by decide) (by decide)) dL_law_270 ?_
  refine lv_aload_n hx hb dL_law_271 rfl (lv_at hl 0 rfl) ?_
  refine lv_iload hx hb dL_law_272 (lv_at hl 4 rfl) ?_
  refine lv_iconst (v := 4) hx hb dL_law_274 (by decide) ?_
  refine lv_iadd hx hb dL_law_275 ?_
  refine va_sld hx hb hX hbl hbA hS (vp_x ex hi hL (k := 4) (by decide) (by decide)) dL_law_276 ?_
  refine lv_aload_n hx hb dL_law_277 rfl (lv_at hl 0 rfl) ?_
  refine lv_iload hx hb dL_law_278 (lv_at hl 4 rfl) ?_
  refine lv_iconst (v := 5) hx hb dL_law_280 (by decide) ?_
  refine lv_iadd hx hb dL_law_281 ?_
  refine va_sld hx hb hX hbl hbA hS (vp_x ex hi hL (k := 5) (by decide) (by decide)) dL_law_282 ?_
  refine lw_cC (vs := [.int (xs (x4 + 1).toNatClampNeg), .int (xs (x4 + 2).toNatClampNeg), .int (xs (x4 + 3).toNatClampNeg), .int (xs (x4 + 4).toNatClampNeg), .int (xs (x4 + 5).toNatClampNeg)]) (rest := []) (τC := τC) (v := v) C (w_X11_feed h1) mi_X11_feed mv_X11_feed ml_L_23 dL_law_283 rfl rfl ⟨Nat.le_of_ble_eq_true rfl, Nat.le_of_ble_eq_true rfl⟩ (Nat.le_of_ble_eq_true rfl) ⟨by omega, by omega⟩ rfl hH hS hl.1 (fun H locs hH hS => ?_)
  refine lv_aload_n hx hb dL_law_286 rfl (lv_at hl 2 rfl) ?_
  refine lv_aload_n hx hb dL_law_287 rfl (lv_at hl 0 rfl) ?_
  refine lv_iload hx hb dL_law_288 (lv_at hl 4 rfl) ?_
  refine lv_iconst (v := 1) hx hb dL_law_290 (by decide) ?_
  refine lv_iadd hx hb dL_law_291 ?_
  refine va_sld hx hb hX hbl hbA hS (vp_x ex hi hL (k := 1) (by decide) (by decide)) dL_law_292 ?_
  refine lv_aload_n hx hb dL_law_293 rfl (lv_at hl 0 rfl) ?_
  refine lv_iload hx hb dL_law_294 (lv_at hl 4 rfl) ?_
  refine lv_iconst (v := 2) hx hb dL_law_296 (by decide) ?_
  refine lv_iadd hx hb dL_law_297 ?_
  refine va_sld hx hb hX hbl hbA hS (vp_x ex hi hL (k := 2) (by decide) (by decide)) dL_law_298 ?_
  refine lv_aload_n hx hb dL_law_299 rfl (lv_at hl 0 rfl) ?_
  refine lv_iload hx hb dL_law_300 (lv_at hl 4 rfl) ?_
  refine lv_iconst (v := 3) hx hb dL_law_302 (by decide) ?_
  refine lv_iadd hx hb dL_law_303 ?_
  refine va_sld hx hb hX hbl hbA hS (vp_x ex hi hL (k := 3) (by decide) (by decide)) dL_law_304 ?_
  refine lv_aload_n hx hb dL_law_305 rfl (lv_at hl 0 rfl) ?_
  refine lv_iload hx hb dL_law_306 (lv_at hl 4 rfl) ?_
  refine lv_iconst (v := 4) hx hb dL_law_308 (by decide) ?_
  refine lv_iadd hx hb dL_law_309 ?_
  refine va_sld hx hb hX hbl hbA hS (vp_x ex hi hL (k := 4) (by decide) (by decide)) dL_law_310 ?_
  refine lv_aload_n hx hb dL_law_311 rfl (lv_at hl 0 rfl) ?_
  refine lv_iload hx hb dL_law_312 (lv_at hl 4 rfl) ?_
  refine lv_iconst (v := 5) hx hb dL_law_314 (by decide) ?_
  refine lv_iadd hx hb dL_law_315 ?_
  refine va_sld hx hb hX hbl hbA hS (vp_x ex hi hL (k := 5) (by decide) (by decide)) dL_law_316 ?_
  refine lw_cM (vs := [.int (xs (x4 + 1).toNatClampNeg), .int (xs (x4 + 2).toNatClampNeg), .int (xs (x4 + 3).toNatClampNeg), .int (xs (x4 + 4).toNatClampNeg), .int (xs (x4 + 5).toNatClampNeg)]) (rest := [.int v]) (τM := τM) (v := v) C (w_X12_feed h2) mi_X12_feed mv_X12_feed ml_L_27 dL_law_317 rfl rfl ⟨Nat.le_of_ble_eq_true rfl, Nat.le_of_ble_eq_true rfl⟩ (Nat.le_of_ble_eq_true rfl) ⟨by omega, by omega⟩ rfl hH hS hl.1 (fun H locs hH hS => ?_)
  refine lv_icmp_eq (tgt := 1643) hx hb dL_law_320 (by decide) (fun _ => ?_) (fun q => absurd rfl q)
  refine W.widen (k := cells + 1) (n := slots + 6) (by omega) (by omega) ?_
  exact kend _ _ _ _ _ _ hI2 hH hS hl
set_option maxRecDepth 100000 in
set_option maxHeartbeats 4000000 in
theorem lc_text (hSp : Sp_text Inv) (C : LC p l s m meth c b L xs GC GM) {i : Nat} {x4 : Int32} (ex : x4 = nI i) (hi : i + 6 ≤ L) (hc : cells + 1 ≤ 601024 ∧ slots + 6 ≤ 7293034) (hI : Inv σC σM) (hH : LH GC GM σC σM f H) (hS : va_S (fun q => s.heap.size ≤ q) s.heap H locs) (hl : lv_has ls 7 (lwL b s.heap.size x4))
    (kend : ∀ (σC σM : Sto) (f : Nat → Int64) (H : Heap) (locs : List Loc) (ls : Array Slot), Inv σC σM → LH GC GM σC σM f H → va_S (fun q => s.heap.size ≤ q) s.heap H locs → lv_has ls 7 (lwL b s.heap.size x4) → W p l e room_1 s m #[Value.ref b] below meth c H locs (cells + 1) (slots + 6) Q (F0 m 1643 ls [])) : W p l e room_1 s m #[Value.ref b] below meth c H locs cells slots Q (F0 m 325 ls []) := by
  obtain ⟨hx, hb, hr, hml, hown, hts, hX, hbl, hlocks, hgv⟩ := id C.1
  have hbA : ¬ (fun q : Nat => s.heap.size ≤ q) b := Nat.not_le.mpr hbl
  have hL := C.2.1
  obtain ⟨v, τC, τM, h1, h2, hI2⟩ := hSp σC σM (xs (x4 + 1).toNatClampNeg) hI
  refine lv_aload_n hx hb dL_law_325 rfl (lv_at hl 1 rfl) ?_
  refine lv_aload_n hx hb dL_law_326 rfl (lv_at hl 0 rfl) ?_
  refine lv_iload hx hb dL_law_327 (lv_at hl 4 rfl) ?_
  refine lv_iconst (v := 1) hx hb dL_law_329 (by decide) ?_
  refine lv_iadd hx hb dL_law_330 ?_
  refine va_sld hx hb hX hbl hbA hS (vp_x ex hi hL (k := 1) (by decide) (by decide)) dL_law_331 ?_
  refine lw_cC (vs := [.int (xs (x4 + 1).toNatClampNeg)]) (rest := []) (τC := τC) (v := v) C (w_X11_text h1) mi_X11_text mv_X11_text ml_L_28 dL_law_332 rfl rfl ⟨Nat.le_of_ble_eq_true rfl, Nat.le_of_ble_eq_true rfl⟩ (Nat.le_of_ble_eq_true rfl) ⟨by omega, by omega⟩ rfl hH hS hl.1 (fun H locs hH hS => ?_)
  refine lv_aload_n hx hb dL_law_335 rfl (lv_at hl 2 rfl) ?_
  refine lv_aload_n hx hb dL_law_336 rfl (lv_at hl 0 rfl) ?_
  refine lv_iload hx hb dL_law_337 (lv_at hl 4 rfl) ?_
  refine lv_iconst (v := 1) hx hb dL_law_339 (by decide) ?_
  refine lv_iadd hx hb dL_law_340 ?_
  refine va_sld hx hb hX hbl hbA hS (vp_x ex hi hL (k := 1) (by decide) (by decide)) dL_law_341 ?_
  refine lw_cM (vs := [.int (xs (x4 + 1).toNatClampNeg)]) (rest := [.int v]) (τM := τM) (v := v) C (w_X12_text h2) mi_X12_text mv_X12_text ml_L_31 dL_law_342 rfl rfl ⟨Nat.le_of_ble_eq_true rfl, Nat.le_of_ble_eq_true rfl⟩ (Nat.le_of_ble_eq_true rfl) ⟨by omega, by omega⟩ rfl hH hS hl.1 (fun H locs hH hS => ?_)
  refine lv_icmp_eq (tgt := 1643) hx hb dL_law_345 (by decide) (fun _ => ?_) (fun q => absurd rfl q)
  refine W.widen (k := cells + 1) (n := slots + 6) (by omega) (by omega) ?_
  exact kend _ _ _ _ _ _ hI2 hH hS hl
set_option maxRecDepth 100000 in
set_option maxHeartbeats 4000000 in
theorem lc_fault (hSp : Sp_fault Inv) (C : LC p l s m meth c b L xs GC GM) {i : Nat} {x4 : Int32} (ex : x4 = nI i) (hi : i + 6 ≤ L) (hc : cells + 1 ≤ 601024 ∧ slots + 6 ≤ 7293034) (hI : Inv σC σM) (hH : LH GC GM σC σM f H) (hS : va_S (fun q => s.heap.size ≤ q) s.heap H locs) (hl : lv_has ls 7 (lwL b s.heap.size x4))
    (kend : ∀ (σC σM : Sto) (f : Nat → Int64) (H : Heap) (locs : List Loc) (ls : Array Slot), Inv σC σM → LH GC GM σC σM f H → va_S (fun q => s.heap.size ≤ q) s.heap H locs → lv_has ls 7 (lwL b s.heap.size x4) → W p l e room_1 s m #[Value.ref b] below meth c H locs (cells + 1) (slots + 6) Q (F0 m 1643 ls [])) : W p l e room_1 s m #[Value.ref b] below meth c H locs cells slots Q (F0 m 350 ls []) := by
  obtain ⟨hx, hb, hr, hml, hown, hts, hX, hbl, hlocks, hgv⟩ := id C.1
  have hbA : ¬ (fun q : Nat => s.heap.size ≤ q) b := Nat.not_le.mpr hbl
  have hL := C.2.1
  obtain ⟨v, τM, h1, h2, hI2⟩ := hSp σC σM  hI
  refine lv_aload_n hx hb dL_law_350 rfl (lv_at hl 1 rfl) ?_
  refine lw_cC (vs := []) (rest := []) (τC := σC) (v := v) C (w_X11_fault h1) mi_X11_fault mv_X11_fault ml_L_32 dL_law_351 rfl rfl ⟨Nat.le_of_ble_eq_true rfl, Nat.le_of_ble_eq_true rfl⟩ (Nat.le_of_ble_eq_true rfl) ⟨by omega, by omega⟩ rfl hH hS hl.1 (fun H locs hH hS => ?_)
  refine lv_aload_n hx hb dL_law_354 rfl (lv_at hl 2 rfl) ?_
  refine lw_cM (vs := []) (rest := [.int v]) (τM := τM) (v := v) C (w_X12_fault h2) mi_X12_fault mv_X12_fault ml_L_36 dL_law_355 rfl rfl ⟨Nat.le_of_ble_eq_true rfl, Nat.le_of_ble_eq_true rfl⟩ (Nat.le_of_ble_eq_true rfl) ⟨by omega, by omega⟩ rfl hH hS hl.1 (fun H locs hH hS => ?_)
  refine lv_icmp_eq (tgt := 1643) hx hb dL_law_358 (by decide) (fun _ => ?_) (fun q => absurd rfl q)
  refine W.widen (k := cells + 1) (n := slots + 6) (by omega) (by omega) ?_
  exact kend _ _ _ _ _ _ hI2 hH hS hl
set_option maxRecDepth 100000 in
set_option maxHeartbeats 4000000 in
theorem lc_where (hSp : Sp_where Inv) (C : LC p l s m meth c b L xs GC GM) {i : Nat} {x4 : Int32} (ex : x4 = nI i) (hi : i + 6 ≤ L) (hc : cells + 1 ≤ 601024 ∧ slots + 6 ≤ 7293034) (hI : Inv σC σM) (hH : LH GC GM σC σM f H) (hS : va_S (fun q => s.heap.size ≤ q) s.heap H locs) (hl : lv_has ls 7 (lwL b s.heap.size x4))
    (kend : ∀ (σC σM : Sto) (f : Nat → Int64) (H : Heap) (locs : List Loc) (ls : Array Slot), Inv σC σM → LH GC GM σC σM f H → va_S (fun q => s.heap.size ≤ q) s.heap H locs → lv_has ls 7 (lwL b s.heap.size x4) → W p l e room_1 s m #[Value.ref b] below meth c H locs (cells + 1) (slots + 6) Q (F0 m 1643 ls [])) : W p l e room_1 s m #[Value.ref b] below meth c H locs cells slots Q (F0 m 363 ls []) := by
  obtain ⟨hx, hb, hr, hml, hown, hts, hX, hbl, hlocks, hgv⟩ := id C.1
  have hbA : ¬ (fun q : Nat => s.heap.size ≤ q) b := Nat.not_le.mpr hbl
  have hL := C.2.1
  obtain ⟨v, τM, h1, h2, hI2⟩ := hSp σC σM  hI
  refine lv_aload_n hx hb dL_law_363 rfl (lv_at hl 1 rfl) ?_
  refine lw_cC (vs := []) (rest := []) (τC := σC) (v := v) C (w_X11_where h1) mi_X11_where mv_X11_where ml_L_37 dL_law_364 rfl rfl ⟨Nat.le_of_ble_eq_true rfl, Nat.le_of_ble_eq_true rfl⟩ (Nat.le_of_ble_eq_true rfl) ⟨by omega, by omega⟩ rfl hH hS hl.1 (fun H locs hH hS => ?_)
  refine lv_aload_n hx hb dL_law_367 rfl (lv_at hl 2 rfl) ?_
  refine lw_cM (vs := []) (rest := [.int v]) (τM := τM) (v := v) C (w_X12_where h2) mi_X12_where mv_X12_where ml_L_40 dL_law_368 rfl rfl ⟨Nat.le_of_ble_eq_true rfl, Nat.le_of_ble_eq_true rfl⟩ (Nat.le_of_ble_eq_true rfl) ⟨by omega, by omega⟩ rfl hH hS hl.1 (fun H locs hH hS => ?_)
  refine lv_icmp_eq (tgt := 1643) hx hb dL_law_371 (by decide) (fun _ => ?_) (fun q => absurd rfl q)
  refine W.widen (k := cells + 1) (n := slots + 6) (by omega) (by omega) ?_
  exact kend _ _ _ _ _ _ hI2 hH hS hl
set_option maxRecDepth 100000 in
set_option maxHeartbeats 4000000 in
theorem lc_about (hSp : Sp_about Inv) (C : LC p l s m meth c b L xs GC GM) {i : Nat} {x4 : Int32} (ex : x4 = nI i) (hi : i + 6 ≤ L) (hc : cells + 1 ≤ 601024 ∧ slots + 6 ≤ 7293034) (hI : Inv σC σM) (hH : LH GC GM σC σM f H) (hS : va_S (fun q => s.heap.size ≤ q) s.heap H locs) (hl : lv_has ls 7 (lwL b s.heap.size x4))
    (kend : ∀ (σC σM : Sto) (f : Nat → Int64) (H : Heap) (locs : List Loc) (ls : Array Slot), Inv σC σM → LH GC GM σC σM f H → va_S (fun q => s.heap.size ≤ q) s.heap H locs → lv_has ls 7 (lwL b s.heap.size x4) → W p l e room_1 s m #[Value.ref b] below meth c H locs (cells + 1) (slots + 6) Q (F0 m 1643 ls [])) : W p l e room_1 s m #[Value.ref b] below meth c H locs cells slots Q (F0 m 376 ls []) := by
  obtain ⟨hx, hb, hr, hml, hown, hts, hX, hbl, hlocks, hgv⟩ := id C.1
  have hbA : ¬ (fun q : Nat => s.heap.size ≤ q) b := Nat.not_le.mpr hbl
  have hL := C.2.1
  obtain ⟨v, τC, τM, h1, h2, hI2⟩ := hSp σC σM (xs (x4 + 1).toNatClampNeg) hI
  refine lv_aload_n hx hb dL_law_376 rfl (lv_at hl 1 rfl) ?_
  refine lv_aload_n hx hb dL_law_377 rfl (lv_at hl 0 rfl) ?_
  refine lv_iload hx hb dL_law_378 (lv_at hl 4 rfl) ?_
  refine lv_iconst (v := 1) hx hb dL_law_380 (by decide) ?_
  refine lv_iadd hx hb dL_law_381 ?_
  refine va_sld hx hb hX hbl hbA hS (vp_x ex hi hL (k := 1) (by decide) (by decide)) dL_law_382 ?_
  refine lw_cC (vs := [.int (xs (x4 + 1).toNatClampNeg)]) (rest := []) (τC := τC) (v := v) C (w_X11_about h1) mi_X11_about mv_X11_about ml_L_41 dL_law_383 rfl rfl ⟨Nat.le_of_ble_eq_true rfl, Nat.le_of_ble_eq_true rfl⟩ (Nat.le_of_ble_eq_true rfl) ⟨by omega, by omega⟩ rfl hH hS hl.1 (fun H locs hH hS => ?_)
  refine lv_aload_n hx hb dL_law_386 rfl (lv_at hl 2 rfl) ?_
  refine lv_aload_n hx hb dL_law_387 rfl (lv_at hl 0 rfl) ?_
  refine lv_iload hx hb dL_law_388 (lv_at hl 4 rfl) ?_
  refine lv_iconst (v := 1) hx hb dL_law_390 (by decide) ?_
  refine lv_iadd hx hb dL_law_391 ?_
  refine va_sld hx hb hX hbl hbA hS (vp_x ex hi hL (k := 1) (by decide) (by decide)) dL_law_392 ?_
  refine lw_cM (vs := [.int (xs (x4 + 1).toNatClampNeg)]) (rest := [.int v]) (τM := τM) (v := v) C (w_X12_about h2) mi_X12_about mv_X12_about ml_L_44 dL_law_393 rfl rfl ⟨Nat.le_of_ble_eq_true rfl, Nat.le_of_ble_eq_true rfl⟩ (Nat.le_of_ble_eq_true rfl) ⟨by omega, by omega⟩ rfl hH hS hl.1 (fun H locs hH hS => ?_)
  refine lv_icmp_eq (tgt := 1643) hx hb dL_law_396 (by decide) (fun _ => ?_) (fun q => absurd rfl q)
  refine W.widen (k := cells + 1) (n := slots + 6) (by omega) (by omega) ?_
  exact kend _ _ _ _ _ _ hI2 hH hS hl
set_option maxRecDepth 100000 in
set_option maxHeartbeats 4000000 in
theorem lc_service (hSp : Sp_service Inv) (C : LC p l s m meth c b L xs GC GM) {i : Nat} {x4 : Int32} (ex : x4 = nI i) (hi : i + 6 ≤ L) (hc : cells + 1 ≤ 601024 ∧ slots + 6 ≤ 7293034) (hI : Inv σC σM) (hH : LH GC GM σC σM f H) (hS : va_S (fun q => s.heap.size ≤ q) s.heap H locs) (hl : lv_has ls 7 (lwL b s.heap.size x4))
    (kend : ∀ (σC σM : Sto) (f : Nat → Int64) (H : Heap) (locs : List Loc) (ls : Array Slot), Inv σC σM → LH GC GM σC σM f H → va_S (fun q => s.heap.size ≤ q) s.heap H locs → lv_has ls 7 (lwL b s.heap.size x4) → W p l e room_1 s m #[Value.ref b] below meth c H locs (cells + 1) (slots + 6) Q (F0 m 1643 ls [])) : W p l e room_1 s m #[Value.ref b] below meth c H locs cells slots Q (F0 m 401 ls []) := by
  obtain ⟨hx, hb, hr, hml, hown, hts, hX, hbl, hlocks, hgv⟩ := id C.1
  have hbA : ¬ (fun q : Nat => s.heap.size ≤ q) b := Nat.not_le.mpr hbl
  have hL := C.2.1
  obtain ⟨v, τC, τM, h1, h2, hI2⟩ := hSp σC σM (xs (x4 + 1).toNatClampNeg) (xs (x4 + 2).toNatClampNeg) hI
  refine lv_aload_n hx hb dL_law_401 rfl (lv_at hl 1 rfl) ?_
  refine lv_aload_n hx hb dL_law_402 rfl (lv_at hl 0 rfl) ?_
  refine lv_iload hx hb dL_law_403 (lv_at hl 4 rfl) ?_
  refine lv_iconst (v := 1) hx hb dL_law_405 (by decide) ?_
  refine lv_iadd hx hb dL_law_406 ?_
  refine va_sld hx hb hX hbl hbA hS (vp_x ex hi hL (k := 1) (by decide) (by decide)) dL_law_407 ?_
  refine lv_aload_n hx hb dL_law_408 rfl (lv_at hl 0 rfl) ?_
  refine lv_iload hx hb dL_law_409 (lv_at hl 4 rfl) ?_
  refine lv_iconst (v := 2) hx hb dL_law_411 (by decide) ?_
  refine lv_iadd hx hb dL_law_412 ?_
  refine va_sld hx hb hX hbl hbA hS (vp_x ex hi hL (k := 2) (by decide) (by decide)) dL_law_413 ?_
  refine lw_cC (vs := [.int (xs (x4 + 1).toNatClampNeg), .int (xs (x4 + 2).toNatClampNeg)]) (rest := []) (τC := τC) (v := v) C (w_X11_service h1) mi_X11_service mv_X11_service ml_L_45 dL_law_414 rfl rfl ⟨Nat.le_of_ble_eq_true rfl, Nat.le_of_ble_eq_true rfl⟩ (Nat.le_of_ble_eq_true rfl) ⟨by omega, by omega⟩ rfl hH hS hl.1 (fun H locs hH hS => ?_)
  refine lv_aload_n hx hb dL_law_417 rfl (lv_at hl 2 rfl) ?_
  refine lv_aload_n hx hb dL_law_418 rfl (lv_at hl 0 rfl) ?_
  refine lv_iload hx hb dL_law_419 (lv_at hl 4 rfl) ?_
  refine lv_iconst (v := 1) hx hb dL_law_421 (by decide) ?_
  refine lv_iadd hx hb dL_law_422 ?_
  refine va_sld hx hb hX hbl hbA hS (vp_x ex hi hL (k := 1) (by decide) (by decide)) dL_law_423 ?_
  refine lv_aload_n hx hb dL_law_424 rfl (lv_at hl 0 rfl) ?_
  refine lv_iload hx hb dL_law_425 (lv_at hl 4 rfl) ?_
  refine lv_iconst (v := 2) hx hb dL_law_427 (by decide) ?_
  refine lv_iadd hx hb dL_law_428 ?_
  refine va_sld hx hb hX hbl hbA hS (vp_x ex hi hL (k := 2) (by decide) (by decide)) dL_law_429 ?_
  refine lw_cM (vs := [.int (xs (x4 + 1).toNatClampNeg), .int (xs (x4 + 2).toNatClampNeg)]) (rest := [.int v]) (τM := τM) (v := v) C (w_X12_service h2) mi_X12_service mv_X12_service ml_L_48 dL_law_430 rfl rfl ⟨Nat.le_of_ble_eq_true rfl, Nat.le_of_ble_eq_true rfl⟩ (Nat.le_of_ble_eq_true rfl) ⟨by omega, by omega⟩ rfl hH hS hl.1 (fun H locs hH hS => ?_)
  refine lv_icmp_eq (tgt := 1643) hx hb dL_law_433 (by decide) (fun _ => ?_) (fun q => absurd rfl q)
  refine W.widen (k := cells + 1) (n := slots + 6) (by omega) (by omega) ?_
  exact kend _ _ _ _ _ _ hI2 hH hS hl
set_option maxRecDepth 100000 in
set_option maxHeartbeats 4000000 in
theorem lc_rule (hSp : Sp_rule Inv) (C : LC p l s m meth c b L xs GC GM) {i : Nat} {x4 : Int32} (ex : x4 = nI i) (hi : i + 6 ≤ L) (hc : cells + 1 ≤ 601024 ∧ slots + 6 ≤ 7293034) (hI : Inv σC σM) (hH : LH GC GM σC σM f H) (hS : va_S (fun q => s.heap.size ≤ q) s.heap H locs) (hl : lv_has ls 7 (lwL b s.heap.size x4))
    (kend : ∀ (σC σM : Sto) (f : Nat → Int64) (H : Heap) (locs : List Loc) (ls : Array Slot), Inv σC σM → LH GC GM σC σM f H → va_S (fun q => s.heap.size ≤ q) s.heap H locs → lv_has ls 7 (lwL b s.heap.size x4) → W p l e room_1 s m #[Value.ref b] below meth c H locs (cells + 1) (slots + 6) Q (F0 m 1643 ls [])) : W p l e room_1 s m #[Value.ref b] below meth c H locs cells slots Q (F0 m 438 ls []) := by
  obtain ⟨hx, hb, hr, hml, hown, hts, hX, hbl, hlocks, hgv⟩ := id C.1
  have hbA : ¬ (fun q : Nat => s.heap.size ≤ q) b := Nat.not_le.mpr hbl
  have hL := C.2.1
  obtain ⟨v, τC, τM, h1, h2, hI2⟩ := hSp σC σM (xs (x4 + 1).toNatClampNeg) hI
  refine lv_aload_n hx hb dL_law_438 rfl (lv_at hl 1 rfl) ?_
  refine lv_aload_n hx hb dL_law_439 rfl (lv_at hl 0 rfl) ?_
  refine lv_iload hx hb dL_law_440 (lv_at hl 4 rfl) ?_
  refine lv_iconst (v := 1) hx hb dL_law_442 (by decide) ?_
  refine lv_iadd hx hb dL_law_443 ?_
  refine va_sld hx hb hX hbl hbA hS (vp_x ex hi hL (k := 1) (by decide) (by decide)) dL_law_444 ?_
  refine lw_cC (vs := [.int (xs (x4 + 1).toNatClampNeg)]) (rest := []) (τC := τC) (v := v) C (w_X11_rule h1) mi_X11_rule mv_X11_rule ml_L_49 dL_law_445 rfl rfl ⟨Nat.le_of_ble_eq_true rfl, Nat.le_of_ble_eq_true rfl⟩ (Nat.le_of_ble_eq_true rfl) ⟨by omega, by omega⟩ rfl hH hS hl.1 (fun H locs hH hS => ?_)
  refine lv_aload_n hx hb dL_law_448 rfl (lv_at hl 2 rfl) ?_
  refine lv_aload_n hx hb dL_law_449 rfl (lv_at hl 0 rfl) ?_
  refine lv_iload hx hb dL_law_450 (lv_at hl 4 rfl) ?_
  refine lv_iconst (v := 1) hx hb dL_law_452 (by decide) ?_
  refine lv_iadd hx hb dL_law_453 ?_
  refine va_sld hx hb hX hbl hbA hS (vp_x ex hi hL (k := 1) (by decide) (by decide)) dL_law_454 ?_
  refine lw_cM (vs := [.int (xs (x4 + 1).toNatClampNeg)]) (rest := [.int v]) (τM := τM) (v := v) C (w_X12_rule h2) mi_X12_rule mv_X12_rule ml_L_52 dL_law_455 rfl rfl ⟨Nat.le_of_ble_eq_true rfl, Nat.le_of_ble_eq_true rfl⟩ (Nat.le_of_ble_eq_true rfl) ⟨by omega, by omega⟩ rfl hH hS hl.1 (fun H locs hH hS => ?_)
  refine lv_icmp_eq (tgt := 1643) hx hb dL_law_458 (by decide) (fun _ => ?_) (fun q => absurd rfl q)
  refine W.widen (k := cells + 1) (n := slots + 6) (by omega) (by omega) ?_
  exact kend _ _ _ _ _ _ hI2 hH hS hl
set_option maxRecDepth 100000 in
set_option maxHeartbeats 4000000 in
theorem lc_carried (hSp : Sp_carried Inv) (C : LC p l s m meth c b L xs GC GM) {i : Nat} {x4 : Int32} (ex : x4 = nI i) (hi : i + 6 ≤ L) (hc : cells + 1 ≤ 601024 ∧ slots + 6 ≤ 7293034) (hI : Inv σC σM) (hH : LH GC GM σC σM f H) (hS : va_S (fun q => s.heap.size ≤ q) s.heap H locs) (hl : lv_has ls 7 (lwL b s.heap.size x4))
    (kend : ∀ (σC σM : Sto) (f : Nat → Int64) (H : Heap) (locs : List Loc) (ls : Array Slot), Inv σC σM → LH GC GM σC σM f H → va_S (fun q => s.heap.size ≤ q) s.heap H locs → lv_has ls 7 (lwL b s.heap.size x4) → W p l e room_1 s m #[Value.ref b] below meth c H locs (cells + 1) (slots + 6) Q (F0 m 1643 ls [])) : W p l e room_1 s m #[Value.ref b] below meth c H locs cells slots Q (F0 m 463 ls []) := by
  obtain ⟨hx, hb, hr, hml, hown, hts, hX, hbl, hlocks, hgv⟩ := id C.1
  have hbA : ¬ (fun q : Nat => s.heap.size ≤ q) b := Nat.not_le.mpr hbl
  have hL := C.2.1
  obtain ⟨v, τC, τM, h1, h2, hI2⟩ := hSp σC σM (xs (x4 + 1).toNatClampNeg) hI
  refine lv_aload_n hx hb dL_law_463 rfl (lv_at hl 1 rfl) ?_
  refine lv_aload_n hx hb dL_law_464 rfl (lv_at hl 0 rfl) ?_
  refine lv_iload hx hb dL_law_465 (lv_at hl 4 rfl) ?_
  refine lv_iconst (v := 1) hx hb dL_law_467 (by decide) ?_
  refine lv_iadd hx hb dL_law_468 ?_
  refine va_sld hx hb hX hbl hbA hS (vp_x ex hi hL (k := 1) (by decide) (by decide)) dL_law_469 ?_
  refine lw_cC (vs := [.int (xs (x4 + 1).toNatClampNeg)]) (rest := []) (τC := τC) (v := v) C (w_X11_carried h1) mi_X11_carried mv_X11_carried ml_L_53 dL_law_470 rfl rfl ⟨Nat.le_of_ble_eq_true rfl, Nat.le_of_ble_eq_true rfl⟩ (Nat.le_of_ble_eq_true rfl) ⟨by omega, by omega⟩ rfl hH hS hl.1 (fun H locs hH hS => ?_)
  refine lv_aload_n hx hb dL_law_473 rfl (lv_at hl 2 rfl) ?_
  refine lv_aload_n hx hb dL_law_474 rfl (lv_at hl 0 rfl) ?_
  refine lv_iload hx hb dL_law_475 (lv_at hl 4 rfl) ?_
  refine lv_iconst (v := 1) hx hb dL_law_477 (by decide) ?_
  refine lv_iadd hx hb dL_law_478 ?_
  refine va_sld hx hb hX hbl hbA hS (vp_x ex hi hL (k := 1) (by decide) (by decide)) dL_law_479 ?_
  refine lw_cM (vs := [.int (xs (x4 + 1).toNatClampNeg)]) (rest := [.int v]) (τM := τM) (v := v) C (w_X12_carried h2) mi_X12_carried mv_X12_carried ml_L_56 dL_law_480 rfl rfl ⟨Nat.le_of_ble_eq_true rfl, Nat.le_of_ble_eq_true rfl⟩ (Nat.le_of_ble_eq_true rfl) ⟨by omega, by omega⟩ rfl hH hS hl.1 (fun H locs hH hS => ?_)
  refine lv_icmp_eq (tgt := 1643) hx hb dL_law_483 (by decide) (fun _ => ?_) (fun q => absurd rfl q)
  refine W.widen (k := cells + 1) (n := slots + 6) (by omega) (by omega) ?_
  exact kend _ _ _ _ _ _ hI2 hH hS hl
set_option maxRecDepth 100000 in
set_option maxHeartbeats 4000000 in
theorem lc_bought (hSp : Sp_bought Inv) (C : LC p l s m meth c b L xs GC GM) {i : Nat} {x4 : Int32} (ex : x4 = nI i) (hi : i + 6 ≤ L) (hc : cells + 1 ≤ 601024 ∧ slots + 6 ≤ 7293034) (hI : Inv σC σM) (hH : LH GC GM σC σM f H) (hS : va_S (fun q => s.heap.size ≤ q) s.heap H locs) (hl : lv_has ls 7 (lwL b s.heap.size x4))
    (kend : ∀ (σC σM : Sto) (f : Nat → Int64) (H : Heap) (locs : List Loc) (ls : Array Slot), Inv σC σM → LH GC GM σC σM f H → va_S (fun q => s.heap.size ≤ q) s.heap H locs → lv_has ls 7 (lwL b s.heap.size x4) → W p l e room_1 s m #[Value.ref b] below meth c H locs (cells + 1) (slots + 6) Q (F0 m 1643 ls [])) : W p l e room_1 s m #[Value.ref b] below meth c H locs cells slots Q (F0 m 488 ls []) := by
  obtain ⟨hx, hb, hr, hml, hown, hts, hX, hbl, hlocks, hgv⟩ := id C.1
  have hbA : ¬ (fun q : Nat => s.heap.size ≤ q) b := Nat.not_le.mpr hbl
  have hL := C.2.1
  obtain ⟨v, τC, τM, h1, h2, hI2⟩ := hSp σC σM (xs (x4 + 1).toNatClampNeg) (xs (x4 + 2).toNatClampNeg) hI
  refine lv_aload_n hx hb dL_law_488 rfl (lv_at hl 1 rfl) ?_
  refine lv_aload_n hx hb dL_law_489 rfl (lv_at hl 0 rfl) ?_
  refine lv_iload hx hb dL_law_490 (lv_at hl 4 rfl) ?_
  refine lv_iconst (v := 1) hx hb dL_law_492 (by decide) ?_
  refine lv_iadd hx hb dL_law_493 ?_
  refine va_sld hx hb hX hbl hbA hS (vp_x ex hi hL (k := 1) (by decide) (by decide)) dL_law_494 ?_
  refine lv_aload_n hx hb dL_law_495 rfl (lv_at hl 0 rfl) ?_
  refine lv_iload hx hb dL_law_496 (lv_at hl 4 rfl) ?_
  refine lv_iconst (v := 2) hx hb dL_law_498 (by decide) ?_
  refine lv_iadd hx hb dL_law_499 ?_
  refine va_sld hx hb hX hbl hbA hS (vp_x ex hi hL (k := 2) (by decide) (by decide)) dL_law_500 ?_
  refine lw_cC (vs := [.int (xs (x4 + 1).toNatClampNeg), .int (xs (x4 + 2).toNatClampNeg)]) (rest := []) (τC := τC) (v := v) C (w_X11_bought h1) mi_X11_bought mv_X11_bought ml_L_57 dL_law_501 rfl rfl ⟨Nat.le_of_ble_eq_true rfl, Nat.le_of_ble_eq_true rfl⟩ (Nat.le_of_ble_eq_true rfl) ⟨by omega, by omega⟩ rfl hH hS hl.1 (fun H locs hH hS => ?_)
  refine lv_aload_n hx hb dL_law_504 rfl (lv_at hl 2 rfl) ?_
  refine lv_aload_n hx hb dL_law_505 rfl (lv_at hl 0 rfl) ?_
  refine lv_iload hx hb dL_law_506 (lv_at hl 4 rfl) ?_
  refine lv_iconst (v := 1) hx hb dL_law_508 (by decide) ?_
  refine lv_iadd hx hb dL_law_509 ?_
  refine va_sld hx hb hX hbl hbA hS (vp_x ex hi hL (k := 1) (by decide) (by decide)) dL_law_510 ?_
  refine lv_aload_n hx hb dL_law_511 rfl (lv_at hl 0 rfl) ?_
  refine lv_iload hx hb dL_law_512 (lv_at hl 4 rfl) ?_
  refine lv_iconst (v := 2) hx hb dL_law_514 (by decide) ?_
  refine lv_iadd hx hb dL_law_515 ?_
  refine va_sld hx hb hX hbl hbA hS (vp_x ex hi hL (k := 2) (by decide) (by decide)) dL_law_516 ?_
  refine lw_cM (vs := [.int (xs (x4 + 1).toNatClampNeg), .int (xs (x4 + 2).toNatClampNeg)]) (rest := [.int v]) (τM := τM) (v := v) C (w_X12_bought h2) mi_X12_bought mv_X12_bought ml_L_60 dL_law_517 rfl rfl ⟨Nat.le_of_ble_eq_true rfl, Nat.le_of_ble_eq_true rfl⟩ (Nat.le_of_ble_eq_true rfl) ⟨by omega, by omega⟩ rfl hH hS hl.1 (fun H locs hH hS => ?_)
  refine lv_icmp_eq (tgt := 1643) hx hb dL_law_520 (by decide) (fun _ => ?_) (fun q => absurd rfl q)
  refine W.widen (k := cells + 1) (n := slots + 6) (by omega) (by omega) ?_
  exact kend _ _ _ _ _ _ hI2 hH hS hl
set_option maxRecDepth 100000 in
set_option maxHeartbeats 4000000 in
theorem lc_profit (hSp : Sp_profit Inv) (C : LC p l s m meth c b L xs GC GM) {i : Nat} {x4 : Int32} (ex : x4 = nI i) (hi : i + 6 ≤ L) (hc : cells + 1 ≤ 601024 ∧ slots + 6 ≤ 7293034) (hI : Inv σC σM) (hH : LH GC GM σC σM f H) (hS : va_S (fun q => s.heap.size ≤ q) s.heap H locs) (hl : lv_has ls 7 (lwL b s.heap.size x4))
    (kend : ∀ (σC σM : Sto) (f : Nat → Int64) (H : Heap) (locs : List Loc) (ls : Array Slot), Inv σC σM → LH GC GM σC σM f H → va_S (fun q => s.heap.size ≤ q) s.heap H locs → lv_has ls 7 (lwL b s.heap.size x4) → W p l e room_1 s m #[Value.ref b] below meth c H locs (cells + 1) (slots + 6) Q (F0 m 1643 ls [])) : W p l e room_1 s m #[Value.ref b] below meth c H locs cells slots Q (F0 m 525 ls []) := by
  obtain ⟨hx, hb, hr, hml, hown, hts, hX, hbl, hlocks, hgv⟩ := id C.1
  have hbA : ¬ (fun q : Nat => s.heap.size ≤ q) b := Nat.not_le.mpr hbl
  have hL := C.2.1
  obtain ⟨v, τC, τM, h1, h2, hI2⟩ := hSp σC σM (xs (x4 + 1).toNatClampNeg) (xs (x4 + 2).toNatClampNeg) hI
  refine lv_aload_n hx hb dL_law_525 rfl (lv_at hl 1 rfl) ?_
  refine lv_aload_n hx hb dL_law_526 rfl (lv_at hl 0 rfl) ?_
  refine lv_iload hx hb dL_law_527 (lv_at hl 4 rfl) ?_
  refine lv_iconst (v := 1) hx hb dL_law_529 (by decide) ?_
  refine lv_iadd hx hb dL_law_530 ?_
  refine va_sld hx hb hX hbl hbA hS (vp_x ex hi hL (k := 1) (by decide) (by decide)) dL_law_531 ?_
  refine lv_aload_n hx hb dL_law_532 rfl (lv_at hl 0 rfl) ?_
  refine lv_iload hx hb dL_law_533 (lv_at hl 4 rfl) ?_
  refine lv_iconst (v := 2) hx hb dL_law_535 (by decide) ?_
  refine lv_iadd hx hb dL_law_536 ?_
  refine va_sld hx hb hX hbl hbA hS (vp_x ex hi hL (k := 2) (by decide) (by decide)) dL_law_537 ?_
  refine lw_cC (vs := [.int (xs (x4 + 1).toNatClampNeg), .int (xs (x4 + 2).toNatClampNeg)]) (rest := []) (τC := τC) (v := v) C (w_X11_profit h1) mi_X11_profit mv_X11_profit ml_L_61 dL_law_538 rfl rfl ⟨Nat.le_of_ble_eq_true rfl, Nat.le_of_ble_eq_true rfl⟩ (Nat.le_of_ble_eq_true rfl) ⟨by omega, by omega⟩ rfl hH hS hl.1 (fun H locs hH hS => ?_)
  refine lv_aload_n hx hb dL_law_541 rfl (lv_at hl 2 rfl) ?_
  refine lv_aload_n hx hb dL_law_542 rfl (lv_at hl 0 rfl) ?_
  refine lv_iload hx hb dL_law_543 (lv_at hl 4 rfl) ?_
  refine lv_iconst (v := 1) hx hb dL_law_545 (by decide) ?_
  refine lv_iadd hx hb dL_law_546 ?_
  refine va_sld hx hb hX hbl hbA hS (vp_x ex hi hL (k := 1) (by decide) (by decide)) dL_law_547 ?_
  refine lv_aload_n hx hb dL_law_548 rfl (lv_at hl 0 rfl) ?_
  refine lv_iload hx hb dL_law_549 (lv_at hl 4 rfl) ?_
  refine lv_iconst (v := 2) hx hb dL_law_551 (by decide) ?_
  refine lv_iadd hx hb dL_law_552 ?_
  refine va_sld hx hb hX hbl hbA hS (vp_x ex hi hL (k := 2) (by decide) (by decide)) dL_law_553 ?_
  refine lw_cM (vs := [.int (xs (x4 + 1).toNatClampNeg), .int (xs (x4 + 2).toNatClampNeg)]) (rest := [.int v]) (τM := τM) (v := v) C (w_X12_profit h2) mi_X12_profit mv_X12_profit ml_L_64 dL_law_554 rfl rfl ⟨Nat.le_of_ble_eq_true rfl, Nat.le_of_ble_eq_true rfl⟩ (Nat.le_of_ble_eq_true rfl) ⟨by omega, by omega⟩ rfl hH hS hl.1 (fun H locs hH hS => ?_)
  refine lv_icmp_eq (tgt := 1643) hx hb dL_law_557 (by decide) (fun _ => ?_) (fun q => absurd rfl q)
  refine W.widen (k := cells + 1) (n := slots + 6) (by omega) (by omega) ?_
  exact kend _ _ _ _ _ _ hI2 hH hS hl
set_option maxRecDepth 100000 in
set_option maxHeartbeats 4000000 in
theorem lc_good (hSp : Sp_good Inv) (C : LC p l s m meth c b L xs GC GM) {i : Nat} {x4 : Int32} (ex : x4 = nI i) (hi : i + 6 ≤ L) (hc : cells + 1 ≤ 601024 ∧ slots + 6 ≤ 7293034) (hI : Inv σC σM) (hH : LH GC GM σC σM f H) (hS : va_S (fun q => s.heap.size ≤ q) s.heap H locs) (hl : lv_has ls 7 (lwL b s.heap.size x4))
    (kend : ∀ (σC σM : Sto) (f : Nat → Int64) (H : Heap) (locs : List Loc) (ls : Array Slot), Inv σC σM → LH GC GM σC σM f H → va_S (fun q => s.heap.size ≤ q) s.heap H locs → lv_has ls 7 (lwL b s.heap.size x4) → W p l e room_1 s m #[Value.ref b] below meth c H locs (cells + 1) (slots + 6) Q (F0 m 1643 ls [])) : W p l e room_1 s m #[Value.ref b] below meth c H locs cells slots Q (F0 m 562 ls []) := by
  obtain ⟨hx, hb, hr, hml, hown, hts, hX, hbl, hlocks, hgv⟩ := id C.1
  have hbA : ¬ (fun q : Nat => s.heap.size ≤ q) b := Nat.not_le.mpr hbl
  have hL := C.2.1
  obtain ⟨v, τC, τM, h1, h2, hI2⟩ := hSp σC σM (xs (x4 + 1).toNatClampNeg) (xs (x4 + 2).toNatClampNeg) hI
  refine lv_aload_n hx hb dL_law_562 rfl (lv_at hl 1 rfl) ?_
  refine lv_aload_n hx hb dL_law_563 rfl (lv_at hl 0 rfl) ?_
  refine lv_iload hx hb dL_law_564 (lv_at hl 4 rfl) ?_
  refine lv_iconst (v := 1) hx hb dL_law_566 (by decide) ?_
  refine lv_iadd hx hb dL_law_567 ?_
  refine va_sld hx hb hX hbl hbA hS (vp_x ex hi hL (k := 1) (by decide) (by decide)) dL_law_568 ?_
  refine lv_aload_n hx hb dL_law_569 rfl (lv_at hl 0 rfl) ?_
  refine lv_iload hx hb dL_law_570 (lv_at hl 4 rfl) ?_
  refine lv_iconst (v := 2) hx hb dL_law_572 (by decide) ?_
  refine lv_iadd hx hb dL_law_573 ?_
  refine va_sld hx hb hX hbl hbA hS (vp_x ex hi hL (k := 2) (by decide) (by decide)) dL_law_574 ?_
  refine lw_cC (vs := [.int (xs (x4 + 1).toNatClampNeg), .int (xs (x4 + 2).toNatClampNeg)]) (rest := []) (τC := τC) (v := v) C (w_X11_good h1) mi_X11_good mv_X11_good ml_L_65 dL_law_575 rfl rfl ⟨Nat.le_of_ble_eq_true rfl, Nat.le_of_ble_eq_true rfl⟩ (Nat.le_of_ble_eq_true rfl) ⟨by omega, by omega⟩ rfl hH hS hl.1 (fun H locs hH hS => ?_)
  refine lv_aload_n hx hb dL_law_578 rfl (lv_at hl 2 rfl) ?_
  refine lv_aload_n hx hb dL_law_579 rfl (lv_at hl 0 rfl) ?_
  refine lv_iload hx hb dL_law_580 (lv_at hl 4 rfl) ?_
  refine lv_iconst (v := 1) hx hb dL_law_582 (by decide) ?_
  refine lv_iadd hx hb dL_law_583 ?_
  refine va_sld hx hb hX hbl hbA hS (vp_x ex hi hL (k := 1) (by decide) (by decide)) dL_law_584 ?_
  refine lv_aload_n hx hb dL_law_585 rfl (lv_at hl 0 rfl) ?_
  refine lv_iload hx hb dL_law_586 (lv_at hl 4 rfl) ?_
  refine lv_iconst (v := 2) hx hb dL_law_588 (by decide) ?_
  refine lv_iadd hx hb dL_law_589 ?_
  refine va_sld hx hb hX hbl hbA hS (vp_x ex hi hL (k := 2) (by decide) (by decide)) dL_law_590 ?_
  refine lw_cM (vs := [.int (xs (x4 + 1).toNatClampNeg), .int (xs (x4 + 2).toNatClampNeg)]) (rest := [.int v]) (τM := τM) (v := v) C (w_X12_good h2) mi_X12_good mv_X12_good ml_L_68 dL_law_591 rfl rfl ⟨Nat.le_of_ble_eq_true rfl, Nat.le_of_ble_eq_true rfl⟩ (Nat.le_of_ble_eq_true rfl) ⟨by omega, by omega⟩ rfl hH hS hl.1 (fun H locs hH hS => ?_)
  refine lv_icmp_eq (tgt := 1643) hx hb dL_law_594 (by decide) (fun _ => ?_) (fun q => absurd rfl q)
  refine W.widen (k := cells + 1) (n := slots + 6) (by omega) (by omega) ?_
  exact kend _ _ _ _ _ _ hI2 hH hS hl
set_option maxRecDepth 100000 in
set_option maxHeartbeats 4000000 in
theorem lc_most (hSp : Sp_most Inv) (C : LC p l s m meth c b L xs GC GM) {i : Nat} {x4 : Int32} (ex : x4 = nI i) (hi : i + 6 ≤ L) (hc : cells + 1 ≤ 601024 ∧ slots + 6 ≤ 7293034) (hI : Inv σC σM) (hH : LH GC GM σC σM f H) (hS : va_S (fun q => s.heap.size ≤ q) s.heap H locs) (hl : lv_has ls 7 (lwL b s.heap.size x4))
    (kend : ∀ (σC σM : Sto) (f : Nat → Int64) (H : Heap) (locs : List Loc) (ls : Array Slot), Inv σC σM → LH GC GM σC σM f H → va_S (fun q => s.heap.size ≤ q) s.heap H locs → lv_has ls 7 (lwL b s.heap.size x4) → W p l e room_1 s m #[Value.ref b] below meth c H locs (cells + 1) (slots + 6) Q (F0 m 1643 ls [])) : W p l e room_1 s m #[Value.ref b] below meth c H locs cells slots Q (F0 m 599 ls []) := by
  obtain ⟨hx, hb, hr, hml, hown, hts, hX, hbl, hlocks, hgv⟩ := id C.1
  have hbA : ¬ (fun q : Nat => s.heap.size ≤ q) b := Nat.not_le.mpr hbl
  have hL := C.2.1
  obtain ⟨v, τC, τM, h1, h2, hI2⟩ := hSp σC σM (xs (x4 + 1).toNatClampNeg) hI
  refine lv_aload_n hx hb dL_law_599 rfl (lv_at hl 1 rfl) ?_
  refine lv_aload_n hx hb dL_law_600 rfl (lv_at hl 0 rfl) ?_
  refine lv_iload hx hb dL_law_601 (lv_at hl 4 rfl) ?_
  refine lv_iconst (v := 1) hx hb dL_law_603 (by decide) ?_
  refine lv_iadd hx hb dL_law_604 ?_
  refine va_sld hx hb hX hbl hbA hS (vp_x ex hi hL (k := 1) (by decide) (by decide)) dL_law_605 ?_
  refine lw_cC (vs := [.int (xs (x4 + 1).toNatClampNeg)]) (rest := []) (τC := τC) (v := v) C (w_X11_most h1) mi_X11_most mv_X11_most ml_L_69 dL_law_606 rfl rfl ⟨Nat.le_of_ble_eq_true rfl, Nat.le_of_ble_eq_true rfl⟩ (Nat.le_of_ble_eq_true rfl) ⟨by omega, by omega⟩ rfl hH hS hl.1 (fun H locs hH hS => ?_)
  refine lv_aload_n hx hb dL_law_609 rfl (lv_at hl 2 rfl) ?_
  refine lv_aload_n hx hb dL_law_610 rfl (lv_at hl 0 rfl) ?_
  refine lv_iload hx hb dL_law_611 (lv_at hl 4 rfl) ?_
  refine lv_iconst (v := 1) hx hb dL_law_613 (by decide) ?_
  refine lv_iadd hx hb dL_law_614 ?_
  refine va_sld hx hb hX hbl hbA hS (vp_x ex hi hL (k := 1) (by decide) (by decide)) dL_law_615 ?_
  refine lw_cM (vs := [.int (xs (x4 + 1).toNatClampNeg)]) (rest := [.int v]) (τM := τM) (v := v) C (w_X12_most h2) mi_X12_most mv_X12_most ml_L_72 dL_law_616 rfl rfl ⟨Nat.le_of_ble_eq_true rfl, Nat.le_of_ble_eq_true rfl⟩ (Nat.le_of_ble_eq_true rfl) ⟨by omega, by omega⟩ rfl hH hS hl.1 (fun H locs hH hS => ?_)
  refine lv_icmp_eq (tgt := 1643) hx hb dL_law_619 (by decide) (fun _ => ?_) (fun q => absurd rfl q)
  refine W.widen (k := cells + 1) (n := slots + 6) (by omega) (by omega) ?_
  exact kend _ _ _ _ _ _ hI2 hH hS hl
set_option maxRecDepth 100000 in
set_option maxHeartbeats 4000000 in
theorem lc_free (hSp : Sp_free Inv) (C : LC p l s m meth c b L xs GC GM) {i : Nat} {x4 : Int32} (ex : x4 = nI i) (hi : i + 6 ≤ L) (hc : cells + 1 ≤ 601024 ∧ slots + 6 ≤ 7293034) (hI : Inv σC σM) (hH : LH GC GM σC σM f H) (hS : va_S (fun q => s.heap.size ≤ q) s.heap H locs) (hl : lv_has ls 7 (lwL b s.heap.size x4))
    (kend : ∀ (σC σM : Sto) (f : Nat → Int64) (H : Heap) (locs : List Loc) (ls : Array Slot), Inv σC σM → LH GC GM σC σM f H → va_S (fun q => s.heap.size ≤ q) s.heap H locs → lv_has ls 7 (lwL b s.heap.size x4) → W p l e room_1 s m #[Value.ref b] below meth c H locs (cells + 1) (slots + 6) Q (F0 m 1643 ls [])) : W p l e room_1 s m #[Value.ref b] below meth c H locs cells slots Q (F0 m 624 ls []) := by
  obtain ⟨hx, hb, hr, hml, hown, hts, hX, hbl, hlocks, hgv⟩ := id C.1
  have hbA : ¬ (fun q : Nat => s.heap.size ≤ q) b := Nat.not_le.mpr hbl
  have hL := C.2.1
  obtain ⟨v, τC, τM, h1, h2, hI2⟩ := hSp σC σM (xs (x4 + 1).toNatClampNeg) hI
  refine lv_aload_n hx hb dL_law_624 rfl (lv_at hl 1 rfl) ?_
  refine lv_aload_n hx hb dL_law_625 rfl (lv_at hl 0 rfl) ?_
  refine lv_iload hx hb dL_law_626 (lv_at hl 4 rfl) ?_
  refine lv_iconst (v := 1) hx hb dL_law_628 (by decide) ?_
  refine lv_iadd hx hb dL_law_629 ?_
  refine va_sld hx hb hX hbl hbA hS (vp_x ex hi hL (k := 1) (by decide) (by decide)) dL_law_630 ?_
  refine lw_cC (vs := [.int (xs (x4 + 1).toNatClampNeg)]) (rest := []) (τC := τC) (v := v) C (w_X11_free h1) mi_X11_free mv_X11_free ml_L_73 dL_law_631 rfl rfl ⟨Nat.le_of_ble_eq_true rfl, Nat.le_of_ble_eq_true rfl⟩ (Nat.le_of_ble_eq_true rfl) ⟨by omega, by omega⟩ rfl hH hS hl.1 (fun H locs hH hS => ?_)
  refine lv_aload_n hx hb dL_law_634 rfl (lv_at hl 2 rfl) ?_
  refine lv_aload_n hx hb dL_law_635 rfl (lv_at hl 0 rfl) ?_
  refine lv_iload hx hb dL_law_636 (lv_at hl 4 rfl) ?_
  refine lv_iconst (v := 1) hx hb dL_law_638 (by decide) ?_
  refine lv_iadd hx hb dL_law_639 ?_
  refine va_sld hx hb hX hbl hbA hS (vp_x ex hi hL (k := 1) (by decide) (by decide)) dL_law_640 ?_
  refine lw_cM (vs := [.int (xs (x4 + 1).toNatClampNeg)]) (rest := [.int v]) (τM := τM) (v := v) C (w_X12_free h2) mi_X12_free mv_X12_free ml_L_76 dL_law_641 rfl rfl ⟨Nat.le_of_ble_eq_true rfl, Nat.le_of_ble_eq_true rfl⟩ (Nat.le_of_ble_eq_true rfl) ⟨by omega, by omega⟩ rfl hH hS hl.1 (fun H locs hH hS => ?_)
  refine lv_icmp_eq (tgt := 1643) hx hb dL_law_644 (by decide) (fun _ => ?_) (fun q => absurd rfl q)
  refine W.widen (k := cells + 1) (n := slots + 6) (by omega) (by omega) ?_
  exact kend _ _ _ _ _ _ hI2 hH hS hl
set_option maxRecDepth 100000 in
set_option maxHeartbeats 4000000 in
theorem lc_best (hSp : Sp_best Inv) (C : LC p l s m meth c b L xs GC GM) {i : Nat} {x4 : Int32} (ex : x4 = nI i) (hi : i + 6 ≤ L) (hc : cells + 1 ≤ 601024 ∧ slots + 6 ≤ 7293034) (hI : Inv σC σM) (hH : LH GC GM σC σM f H) (hS : va_S (fun q => s.heap.size ≤ q) s.heap H locs) (hl : lv_has ls 7 (lwL b s.heap.size x4))
    (kend : ∀ (σC σM : Sto) (f : Nat → Int64) (H : Heap) (locs : List Loc) (ls : Array Slot), Inv σC σM → LH GC GM σC σM f H → va_S (fun q => s.heap.size ≤ q) s.heap H locs → lv_has ls 7 (lwL b s.heap.size x4) → W p l e room_1 s m #[Value.ref b] below meth c H locs (cells + 1) (slots + 6) Q (F0 m 1643 ls [])) : W p l e room_1 s m #[Value.ref b] below meth c H locs cells slots Q (F0 m 649 ls []) := by
  obtain ⟨hx, hb, hr, hml, hown, hts, hX, hbl, hlocks, hgv⟩ := id C.1
  have hbA : ¬ (fun q : Nat => s.heap.size ≤ q) b := Nat.not_le.mpr hbl
  have hL := C.2.1
  obtain ⟨v, τC, τM, h1, h2, hI2⟩ := hSp σC σM  hI
  refine lv_aload_n hx hb dL_law_649 rfl (lv_at hl 1 rfl) ?_
  refine lw_cC (vs := []) (rest := []) (τC := τC) (v := v) C (w_X11_best h1) mi_X11_best mv_X11_best ml_L_77 dL_law_650 rfl rfl ⟨Nat.le_of_ble_eq_true rfl, Nat.le_of_ble_eq_true rfl⟩ (Nat.le_of_ble_eq_true rfl) ⟨by omega, by omega⟩ rfl hH hS hl.1 (fun H locs hH hS => ?_)
  refine lv_aload_n hx hb dL_law_653 rfl (lv_at hl 2 rfl) ?_
  refine lw_cM (vs := []) (rest := [.int v]) (τM := τM) (v := v) C (w_X12_best h2) mi_X12_best mv_X12_best ml_L_80 dL_law_654 rfl rfl ⟨Nat.le_of_ble_eq_true rfl, Nat.le_of_ble_eq_true rfl⟩ (Nat.le_of_ble_eq_true rfl) ⟨by omega, by omega⟩ rfl hH hS hl.1 (fun H locs hH hS => ?_)
  refine lv_icmp_eq (tgt := 1643) hx hb dL_law_657 (by decide) (fun _ => ?_) (fun q => absurd rfl q)
  refine W.widen (k := cells + 1) (n := slots + 6) (by omega) (by omega) ?_
  exact kend _ _ _ _ _ _ hI2 hH hS hl
set_option maxRecDepth 100000 in
set_option maxHeartbeats 4000000 in
theorem lc_bestOf (hSp : Sp_bestOf Inv) (C : LC p l s m meth c b L xs GC GM) {i : Nat} {x4 : Int32} (ex : x4 = nI i) (hi : i + 6 ≤ L) (hc : cells + 1 ≤ 601024 ∧ slots + 6 ≤ 7293034) (hI : Inv σC σM) (hH : LH GC GM σC σM f H) (hS : va_S (fun q => s.heap.size ≤ q) s.heap H locs) (hl : lv_has ls 7 (lwL b s.heap.size x4))
    (kend : ∀ (σC σM : Sto) (f : Nat → Int64) (H : Heap) (locs : List Loc) (ls : Array Slot), Inv σC σM → LH GC GM σC σM f H → va_S (fun q => s.heap.size ≤ q) s.heap H locs → lv_has ls 7 (lwL b s.heap.size x4) → W p l e room_1 s m #[Value.ref b] below meth c H locs (cells + 1) (slots + 6) Q (F0 m 1643 ls [])) : W p l e room_1 s m #[Value.ref b] below meth c H locs cells slots Q (F0 m 662 ls []) := by
  obtain ⟨hx, hb, hr, hml, hown, hts, hX, hbl, hlocks, hgv⟩ := id C.1
  have hbA : ¬ (fun q : Nat => s.heap.size ≤ q) b := Nat.not_le.mpr hbl
  have hL := C.2.1
  obtain ⟨v, τC, τM, h1, h2, hI2⟩ := hSp σC σM (xs (x4 + 1).toNatClampNeg) hI
  refine lv_aload_n hx hb dL_law_662 rfl (lv_at hl 1 rfl) ?_
  refine lv_aload_n hx hb dL_law_663 rfl (lv_at hl 0 rfl) ?_
  refine lv_iload hx hb dL_law_664 (lv_at hl 4 rfl) ?_
  refine lv_iconst (v := 1) hx hb dL_law_666 (by decide) ?_
  refine lv_iadd hx hb dL_law_667 ?_
  refine va_sld hx hb hX hbl hbA hS (vp_x ex hi hL (k := 1) (by decide) (by decide)) dL_law_668 ?_
  refine lw_cC (vs := [.int (xs (x4 + 1).toNatClampNeg)]) (rest := []) (τC := τC) (v := v) C (w_X11_bestOf h1) mi_X11_bestOf mv_X11_bestOf ml_L_81 dL_law_669 rfl rfl ⟨Nat.le_of_ble_eq_true rfl, Nat.le_of_ble_eq_true rfl⟩ (Nat.le_of_ble_eq_true rfl) ⟨by omega, by omega⟩ rfl hH hS hl.1 (fun H locs hH hS => ?_)
  refine lv_aload_n hx hb dL_law_672 rfl (lv_at hl 2 rfl) ?_
  refine lv_aload_n hx hb dL_law_673 rfl (lv_at hl 0 rfl) ?_
  refine lv_iload hx hb dL_law_674 (lv_at hl 4 rfl) ?_
  refine lv_iconst (v := 1) hx hb dL_law_676 (by decide) ?_
  refine lv_iadd hx hb dL_law_677 ?_
  refine va_sld hx hb hX hbl hbA hS (vp_x ex hi hL (k := 1) (by decide) (by decide)) dL_law_678 ?_
  refine lw_cM (vs := [.int (xs (x4 + 1).toNatClampNeg)]) (rest := [.int v]) (τM := τM) (v := v) C (w_X12_bestOf h2) mi_X12_bestOf mv_X12_bestOf ml_L_84 dL_law_679 rfl rfl ⟨Nat.le_of_ble_eq_true rfl, Nat.le_of_ble_eq_true rfl⟩ (Nat.le_of_ble_eq_true rfl) ⟨by omega, by omega⟩ rfl hH hS hl.1 (fun H locs hH hS => ?_)
  refine lv_icmp_eq (tgt := 1643) hx hb dL_law_682 (by decide) (fun _ => ?_) (fun q => absurd rfl q)
  refine W.widen (k := cells + 1) (n := slots + 6) (by omega) (by omega) ?_
  exact kend _ _ _ _ _ _ hI2 hH hS hl
set_option maxRecDepth 100000 in
set_option maxHeartbeats 4000000 in
theorem lc_fair (hSp : Sp_fair Inv) (C : LC p l s m meth c b L xs GC GM) {i : Nat} {x4 : Int32} (ex : x4 = nI i) (hi : i + 6 ≤ L) (hc : cells + 1 ≤ 601024 ∧ slots + 6 ≤ 7293034) (hI : Inv σC σM) (hH : LH GC GM σC σM f H) (hS : va_S (fun q => s.heap.size ≤ q) s.heap H locs) (hl : lv_has ls 7 (lwL b s.heap.size x4))
    (kend : ∀ (σC σM : Sto) (f : Nat → Int64) (H : Heap) (locs : List Loc) (ls : Array Slot), Inv σC σM → LH GC GM σC σM f H → va_S (fun q => s.heap.size ≤ q) s.heap H locs → lv_has ls 7 (lwL b s.heap.size x4) → W p l e room_1 s m #[Value.ref b] below meth c H locs (cells + 1) (slots + 6) Q (F0 m 1643 ls [])) : W p l e room_1 s m #[Value.ref b] below meth c H locs cells slots Q (F0 m 687 ls []) := by
  obtain ⟨hx, hb, hr, hml, hown, hts, hX, hbl, hlocks, hgv⟩ := id C.1
  have hbA : ¬ (fun q : Nat => s.heap.size ≤ q) b := Nat.not_le.mpr hbl
  have hL := C.2.1
  obtain ⟨v, τC, τM, h1, h2, hI2⟩ := hSp σC σM  hI
  refine lv_aload_n hx hb dL_law_687 rfl (lv_at hl 1 rfl) ?_
  refine lw_cC (vs := []) (rest := []) (τC := τC) (v := v) C (w_X11_fair h1) mi_X11_fair mv_X11_fair ml_L_85 dL_law_688 rfl rfl ⟨Nat.le_of_ble_eq_true rfl, Nat.le_of_ble_eq_true rfl⟩ (Nat.le_of_ble_eq_true rfl) ⟨by omega, by omega⟩ rfl hH hS hl.1 (fun H locs hH hS => ?_)
  refine lv_aload_n hx hb dL_law_691 rfl (lv_at hl 2 rfl) ?_
  refine lw_cM (vs := []) (rest := [.int v]) (τM := τM) (v := v) C (w_X12_fair h2) mi_X12_fair mv_X12_fair ml_L_88 dL_law_692 rfl rfl ⟨Nat.le_of_ble_eq_true rfl, Nat.le_of_ble_eq_true rfl⟩ (Nat.le_of_ble_eq_true rfl) ⟨by omega, by omega⟩ rfl hH hS hl.1 (fun H locs hH hS => ?_)
  refine lv_icmp_eq (tgt := 1643) hx hb dL_law_695 (by decide) (fun _ => ?_) (fun q => absurd rfl q)
  refine W.widen (k := cells + 1) (n := slots + 6) (by omega) (by omega) ?_
  exact kend _ _ _ _ _ _ hI2 hH hS hl
set_option maxRecDepth 100000 in
set_option maxHeartbeats 4000000 in
theorem lc_fairOf (hSp : Sp_fairOf Inv) (C : LC p l s m meth c b L xs GC GM) {i : Nat} {x4 : Int32} (ex : x4 = nI i) (hi : i + 6 ≤ L) (hc : cells + 1 ≤ 601024 ∧ slots + 6 ≤ 7293034) (hI : Inv σC σM) (hH : LH GC GM σC σM f H) (hS : va_S (fun q => s.heap.size ≤ q) s.heap H locs) (hl : lv_has ls 7 (lwL b s.heap.size x4))
    (kend : ∀ (σC σM : Sto) (f : Nat → Int64) (H : Heap) (locs : List Loc) (ls : Array Slot), Inv σC σM → LH GC GM σC σM f H → va_S (fun q => s.heap.size ≤ q) s.heap H locs → lv_has ls 7 (lwL b s.heap.size x4) → W p l e room_1 s m #[Value.ref b] below meth c H locs (cells + 1) (slots + 6) Q (F0 m 1643 ls [])) : W p l e room_1 s m #[Value.ref b] below meth c H locs cells slots Q (F0 m 700 ls []) := by
  obtain ⟨hx, hb, hr, hml, hown, hts, hX, hbl, hlocks, hgv⟩ := id C.1
  have hbA : ¬ (fun q : Nat => s.heap.size ≤ q) b := Nat.not_le.mpr hbl
  have hL := C.2.1
  obtain ⟨v, τC, τM, h1, h2, hI2⟩ := hSp σC σM (xs (x4 + 1).toNatClampNeg) hI
  refine lv_aload_n hx hb dL_law_700 rfl (lv_at hl 1 rfl) ?_
  refine lv_aload_n hx hb dL_law_701 rfl (lv_at hl 0 rfl) ?_
  refine lv_iload hx hb dL_law_702 (lv_at hl 4 rfl) ?_
  refine lv_iconst (v := 1) hx hb dL_law_704 (by decide) ?_
  refine lv_iadd hx hb dL_law_705 ?_
  refine va_sld hx hb hX hbl hbA hS (vp_x ex hi hL (k := 1) (by decide) (by decide)) dL_law_706 ?_
  refine lw_cC (vs := [.int (xs (x4 + 1).toNatClampNeg)]) (rest := []) (τC := τC) (v := v) C (w_X11_fairOf h1) mi_X11_fairOf mv_X11_fairOf ml_L_89 dL_law_707 rfl rfl ⟨Nat.le_of_ble_eq_true rfl, Nat.le_of_ble_eq_true rfl⟩ (Nat.le_of_ble_eq_true rfl) ⟨by omega, by omega⟩ rfl hH hS hl.1 (fun H locs hH hS => ?_)
  refine lv_aload_n hx hb dL_law_710 rfl (lv_at hl 2 rfl) ?_
  refine lv_aload_n hx hb dL_law_711 rfl (lv_at hl 0 rfl) ?_
  refine lv_iload hx hb dL_law_712 (lv_at hl 4 rfl) ?_
  refine lv_iconst (v := 1) hx hb dL_law_714 (by decide) ?_
  refine lv_iadd hx hb dL_law_715 ?_
  refine va_sld hx hb hX hbl hbA hS (vp_x ex hi hL (k := 1) (by decide) (by decide)) dL_law_716 ?_
  refine lw_cM (vs := [.int (xs (x4 + 1).toNatClampNeg)]) (rest := [.int v]) (τM := τM) (v := v) C (w_X12_fairOf h2) mi_X12_fairOf mv_X12_fairOf ml_L_92 dL_law_717 rfl rfl ⟨Nat.le_of_ble_eq_true rfl, Nat.le_of_ble_eq_true rfl⟩ (Nat.le_of_ble_eq_true rfl) ⟨by omega, by omega⟩ rfl hH hS hl.1 (fun H locs hH hS => ?_)
  refine lv_icmp_eq (tgt := 1643) hx hb dL_law_720 (by decide) (fun _ => ?_) (fun q => absurd rfl q)
  refine W.widen (k := cells + 1) (n := slots + 6) (by omega) (by omega) ?_
  exact kend _ _ _ _ _ _ hI2 hH hS hl
set_option maxRecDepth 100000 in
set_option maxHeartbeats 4000000 in
theorem lc_rows (hSp : Sp_rows Inv) (C : LC p l s m meth c b L xs GC GM) {i : Nat} {x4 : Int32} (ex : x4 = nI i) (hi : i + 6 ≤ L) (hc : cells + 1 ≤ 601024 ∧ slots + 6 ≤ 7293034) (hI : Inv σC σM) (hH : LH GC GM σC σM f H) (hS : va_S (fun q => s.heap.size ≤ q) s.heap H locs) (hl : lv_has ls 7 (lwL b s.heap.size x4))
    (kend : ∀ (σC σM : Sto) (f : Nat → Int64) (H : Heap) (locs : List Loc) (ls : Array Slot), Inv σC σM → LH GC GM σC σM f H → va_S (fun q => s.heap.size ≤ q) s.heap H locs → lv_has ls 7 (lwL b s.heap.size x4) → W p l e room_1 s m #[Value.ref b] below meth c H locs (cells + 1) (slots + 6) Q (F0 m 1643 ls [])) : W p l e room_1 s m #[Value.ref b] below meth c H locs cells slots Q (F0 m 725 ls []) := by
  obtain ⟨hx, hb, hr, hml, hown, hts, hX, hbl, hlocks, hgv⟩ := id C.1
  have hbA : ¬ (fun q : Nat => s.heap.size ≤ q) b := Nat.not_le.mpr hbl
  have hL := C.2.1
  obtain ⟨v, τC, τM, h1, h2, hI2⟩ := hSp σC σM  hI
  refine lv_aload_n hx hb dL_law_725 rfl (lv_at hl 1 rfl) ?_
  refine lw_cC (vs := []) (rest := []) (τC := τC) (v := v) C (w_X11_rows h1) mi_X11_rows mv_X11_rows ml_L_93 dL_law_726 rfl rfl ⟨Nat.le_of_ble_eq_true rfl, Nat.le_of_ble_eq_true rfl⟩ (Nat.le_of_ble_eq_true rfl) ⟨by omega, by omega⟩ rfl hH hS hl.1 (fun H locs hH hS => ?_)
  refine lv_aload_n hx hb dL_law_729 rfl (lv_at hl 2 rfl) ?_
  refine lw_cM (vs := []) (rest := [.int v]) (τM := τM) (v := v) C (w_X12_rows h2) mi_X12_rows mv_X12_rows ml_L_96 dL_law_730 rfl rfl ⟨Nat.le_of_ble_eq_true rfl, Nat.le_of_ble_eq_true rfl⟩ (Nat.le_of_ble_eq_true rfl) ⟨by omega, by omega⟩ rfl hH hS hl.1 (fun H locs hH hS => ?_)
  refine lv_icmp_eq (tgt := 1643) hx hb dL_law_733 (by decide) (fun _ => ?_) (fun q => absurd rfl q)
  refine W.widen (k := cells + 1) (n := slots + 6) (by omega) (by omega) ?_
  exact kend _ _ _ _ _ _ hI2 hH hS hl
set_option maxRecDepth 100000 in
set_option maxHeartbeats 4000000 in
theorem lc_freely (hSp : Sp_freely Inv) (C : LC p l s m meth c b L xs GC GM) {i : Nat} {x4 : Int32} (ex : x4 = nI i) (hi : i + 6 ≤ L) (hc : cells + 1 ≤ 601024 ∧ slots + 6 ≤ 7293034) (hI : Inv σC σM) (hH : LH GC GM σC σM f H) (hS : va_S (fun q => s.heap.size ≤ q) s.heap H locs) (hl : lv_has ls 7 (lwL b s.heap.size x4))
    (kend : ∀ (σC σM : Sto) (f : Nat → Int64) (H : Heap) (locs : List Loc) (ls : Array Slot), Inv σC σM → LH GC GM σC σM f H → va_S (fun q => s.heap.size ≤ q) s.heap H locs → lv_has ls 7 (lwL b s.heap.size x4) → W p l e room_1 s m #[Value.ref b] below meth c H locs (cells + 1) (slots + 6) Q (F0 m 1643 ls [])) : W p l e room_1 s m #[Value.ref b] below meth c H locs cells slots Q (F0 m 738 ls []) := by
  obtain ⟨hx, hb, hr, hml, hown, hts, hX, hbl, hlocks, hgv⟩ := id C.1
  have hbA : ¬ (fun q : Nat => s.heap.size ≤ q) b := Nat.not_le.mpr hbl
  have hL := C.2.1
  obtain ⟨v, τC, τM, h1, h2, hI2⟩ := hSp σC σM (xs (x4 + 1).toNatClampNeg) hI
  refine lv_aload_n hx hb dL_law_738 rfl (lv_at hl 1 rfl) ?_
  refine lv_aload_n hx hb dL_law_739 rfl (lv_at hl 0 rfl) ?_
  refine lv_iload hx hb dL_law_740 (lv_at hl 4 rfl) ?_
  refine lv_iconst (v := 1) hx hb dL_law_742 (by decide) ?_
  refine lv_iadd hx hb dL_law_743 ?_
  refine va_sld hx hb hX hbl hbA hS (vp_x ex hi hL (k := 1) (by decide) (by decide)) dL_law_744 ?_
  refine lw_cC (vs := [.int (xs (x4 + 1).toNatClampNeg)]) (rest := []) (τC := τC) (v := v) C (w_X11_freely h1) mi_X11_freely mv_X11_freely ml_L_97 dL_law_745 rfl rfl ⟨Nat.le_of_ble_eq_true rfl, Nat.le_of_ble_eq_true rfl⟩ (Nat.le_of_ble_eq_true rfl) ⟨by omega, by omega⟩ rfl hH hS hl.1 (fun H locs hH hS => ?_)
  refine lv_aload_n hx hb dL_law_748 rfl (lv_at hl 2 rfl) ?_
  refine lv_aload_n hx hb dL_law_749 rfl (lv_at hl 0 rfl) ?_
  refine lv_iload hx hb dL_law_750 (lv_at hl 4 rfl) ?_
  refine lv_iconst (v := 1) hx hb dL_law_752 (by decide) ?_
  refine lv_iadd hx hb dL_law_753 ?_
  refine va_sld hx hb hX hbl hbA hS (vp_x ex hi hL (k := 1) (by decide) (by decide)) dL_law_754 ?_
  refine lw_cM (vs := [.int (xs (x4 + 1).toNatClampNeg)]) (rest := [.int v]) (τM := τM) (v := v) C (w_X12_freely h2) mi_X12_freely mv_X12_freely ml_L_100 dL_law_755 rfl rfl ⟨Nat.le_of_ble_eq_true rfl, Nat.le_of_ble_eq_true rfl⟩ (Nat.le_of_ble_eq_true rfl) ⟨by omega, by omega⟩ rfl hH hS hl.1 (fun H locs hH hS => ?_)
  refine lv_icmp_eq (tgt := 1643) hx hb dL_law_758 (by decide) (fun _ => ?_) (fun q => absurd rfl q)
  refine W.widen (k := cells + 1) (n := slots + 6) (by omega) (by omega) ?_
  exact kend _ _ _ _ _ _ hI2 hH hS hl
set_option maxRecDepth 100000 in
set_option maxHeartbeats 4000000 in
theorem lc_game (hSp : Sp_game Inv) (C : LC p l s m meth c b L xs GC GM) {i : Nat} {x4 : Int32} (ex : x4 = nI i) (hi : i + 6 ≤ L) (hc : cells + 1 ≤ 601024 ∧ slots + 6 ≤ 7293034) (hI : Inv σC σM) (hH : LH GC GM σC σM f H) (hS : va_S (fun q => s.heap.size ≤ q) s.heap H locs) (hl : lv_has ls 7 (lwL b s.heap.size x4))
    (kend : ∀ (σC σM : Sto) (f : Nat → Int64) (H : Heap) (locs : List Loc) (ls : Array Slot), Inv σC σM → LH GC GM σC σM f H → va_S (fun q => s.heap.size ≤ q) s.heap H locs → lv_has ls 7 (lwL b s.heap.size x4) → W p l e room_1 s m #[Value.ref b] below meth c H locs (cells + 1) (slots + 6) Q (F0 m 1643 ls [])) : W p l e room_1 s m #[Value.ref b] below meth c H locs cells slots Q (F0 m 763 ls []) := by
  obtain ⟨hx, hb, hr, hml, hown, hts, hX, hbl, hlocks, hgv⟩ := id C.1
  have hbA : ¬ (fun q : Nat => s.heap.size ≤ q) b := Nat.not_le.mpr hbl
  have hL := C.2.1
  obtain ⟨v, τC, τM, h1, h2, hI2⟩ := hSp σC σM (xs (x4 + 1).toNatClampNeg) hI
  refine lv_aload_n hx hb dL_law_763 rfl (lv_at hl 1 rfl) ?_
  refine lv_aload_n hx hb dL_law_764 rfl (lv_at hl 0 rfl) ?_
  refine lv_iload hx hb dL_law_765 (lv_at hl 4 rfl) ?_
  refine lv_iconst (v := 1) hx hb dL_law_767 (by decide) ?_
  refine lv_iadd hx hb dL_law_768 ?_
  refine va_sld hx hb hX hbl hbA hS (vp_x ex hi hL (k := 1) (by decide) (by decide)) dL_law_769 ?_
  refine lw_cC (vs := [.int (xs (x4 + 1).toNatClampNeg)]) (rest := []) (τC := τC) (v := v) C (w_X11_game h1) mi_X11_game mv_X11_game ml_L_101 dL_law_770 rfl rfl ⟨Nat.le_of_ble_eq_true rfl, Nat.le_of_ble_eq_true rfl⟩ (Nat.le_of_ble_eq_true rfl) ⟨by omega, by omega⟩ rfl hH hS hl.1 (fun H locs hH hS => ?_)
  refine lv_aload_n hx hb dL_law_773 rfl (lv_at hl 2 rfl) ?_
  refine lv_aload_n hx hb dL_law_774 rfl (lv_at hl 0 rfl) ?_
  refine lv_iload hx hb dL_law_775 (lv_at hl 4 rfl) ?_
  refine lv_iconst (v := 1) hx hb dL_law_777 (by decide) ?_
  refine lv_iadd hx hb dL_law_778 ?_
  refine va_sld hx hb hX hbl hbA hS (vp_x ex hi hL (k := 1) (by decide) (by decide)) dL_law_779 ?_
  refine lw_cM (vs := [.int (xs (x4 + 1).toNatClampNeg)]) (rest := [.int v]) (τM := τM) (v := v) C (w_X12_game h2) mi_X12_game mv_X12_game ml_L_104 dL_law_780 rfl rfl ⟨Nat.le_of_ble_eq_true rfl, Nat.le_of_ble_eq_true rfl⟩ (Nat.le_of_ble_eq_true rfl) ⟨by omega, by omega⟩ rfl hH hS hl.1 (fun H locs hH hS => ?_)
  refine lv_icmp_eq (tgt := 1643) hx hb dL_law_783 (by decide) (fun _ => ?_) (fun q => absurd rfl q)
  refine W.widen (k := cells + 1) (n := slots + 6) (by omega) (by omega) ?_
  exact kend _ _ _ _ _ _ hI2 hH hS hl
set_option maxRecDepth 100000 in
set_option maxHeartbeats 4000000 in
theorem lc_path (hSp : Sp_path Inv) (C : LC p l s m meth c b L xs GC GM) {i : Nat} {x4 : Int32} (ex : x4 = nI i) (hi : i + 6 ≤ L) (hc : cells + 1 ≤ 601024 ∧ slots + 6 ≤ 7293034) (hI : Inv σC σM) (hH : LH GC GM σC σM f H) (hS : va_S (fun q => s.heap.size ≤ q) s.heap H locs) (hl : lv_has ls 7 (lwL b s.heap.size x4))
    (kend : ∀ (σC σM : Sto) (f : Nat → Int64) (H : Heap) (locs : List Loc) (ls : Array Slot), Inv σC σM → LH GC GM σC σM f H → va_S (fun q => s.heap.size ≤ q) s.heap H locs → lv_has ls 7 (lwL b s.heap.size x4) → W p l e room_1 s m #[Value.ref b] below meth c H locs (cells + 1) (slots + 6) Q (F0 m 1643 ls [])) : W p l e room_1 s m #[Value.ref b] below meth c H locs cells slots Q (F0 m 788 ls []) := by
  obtain ⟨hx, hb, hr, hml, hown, hts, hX, hbl, hlocks, hgv⟩ := id C.1
  have hbA : ¬ (fun q : Nat => s.heap.size ≤ q) b := Nat.not_le.mpr hbl
  have hL := C.2.1
  obtain ⟨v, τC, τM, h1, h2, hI2⟩ := hSp σC σM (xs (x4 + 1).toNatClampNeg) (xs (x4 + 2).toNatClampNeg) hI
  refine lv_aload_n hx hb dL_law_788 rfl (lv_at hl 1 rfl) ?_
  refine lv_aload_n hx hb dL_law_789 rfl (lv_at hl 0 rfl) ?_
  refine lv_iload hx hb dL_law_790 (lv_at hl 4 rfl) ?_
  refine lv_iconst (v := 1) hx hb dL_law_792 (by decide) ?_
  refine lv_iadd hx hb dL_law_793 ?_
  refine va_sld hx hb hX hbl hbA hS (vp_x ex hi hL (k := 1) (by decide) (by decide)) dL_law_794 ?_
  refine lv_aload_n hx hb dL_law_795 rfl (lv_at hl 0 rfl) ?_
  refine lv_iload hx hb dL_law_796 (lv_at hl 4 rfl) ?_
  refine lv_iconst (v := 2) hx hb dL_law_798 (by decide) ?_
  refine lv_iadd hx hb dL_law_799 ?_
  refine va_sld hx hb hX hbl hbA hS (vp_x ex hi hL (k := 2) (by decide) (by decide)) dL_law_800 ?_
  refine lw_cC (vs := [.int (xs (x4 + 1).toNatClampNeg), .int (xs (x4 + 2).toNatClampNeg)]) (rest := []) (τC := τC) (v := v) C (w_X11_path h1) mi_X11_path mv_X11_path ml_L_105 dL_law_801 rfl rfl ⟨Nat.le_of_ble_eq_true rfl, Nat.le_of_ble_eq_true rfl⟩ (Nat.le_of_ble_eq_true rfl) ⟨by omega, by omega⟩ rfl hH hS hl.1 (fun H locs hH hS => ?_)
  refine lv_aload_n hx hb dL_law_804 rfl (lv_at hl 2 rfl) ?_
  refine lv_aload_n hx hb dL_law_805 rfl (lv_at hl 0 rfl) ?_
  refine lv_iload hx hb dL_law_806 (lv_at hl 4 rfl) ?_
  refine lv_iconst (v := 1) hx hb dL_law_808 (by decide) ?_
  refine lv_iadd hx hb dL_law_809 ?_
  refine va_sld hx hb hX hbl hbA hS (vp_x ex hi hL (k := 1) (by decide) (by decide)) dL_law_810 ?_
  refine lv_aload_n hx hb dL_law_811 rfl (lv_at hl 0 rfl) ?_
  refine lv_iload hx hb dL_law_812 (lv_at hl 4 rfl) ?_
  refine lv_iconst (v := 2) hx hb dL_law_814 (by decide) ?_
  refine lv_iadd hx hb dL_law_815 ?_
  refine va_sld hx hb hX hbl hbA hS (vp_x ex hi hL (k := 2) (by decide) (by decide)) dL_law_816 ?_
  refine lw_cM (vs := [.int (xs (x4 + 1).toNatClampNeg), .int (xs (x4 + 2).toNatClampNeg)]) (rest := [.int v]) (τM := τM) (v := v) C (w_X12_path h2) mi_X12_path mv_X12_path ml_L_108 dL_law_817 rfl rfl ⟨Nat.le_of_ble_eq_true rfl, Nat.le_of_ble_eq_true rfl⟩ (Nat.le_of_ble_eq_true rfl) ⟨by omega, by omega⟩ rfl hH hS hl.1 (fun H locs hH hS => ?_)
  refine lv_icmp_eq (tgt := 1643) hx hb dL_law_820 (by decide) (fun _ => ?_) (fun q => absurd rfl q)
  refine W.widen (k := cells + 1) (n := slots + 6) (by omega) (by omega) ?_
  exact kend _ _ _ _ _ _ hI2 hH hS hl
set_option maxRecDepth 100000 in
set_option maxHeartbeats 4000000 in
theorem lc_buyer (hSp : Sp_buyer Inv) (C : LC p l s m meth c b L xs GC GM) {i : Nat} {x4 : Int32} (ex : x4 = nI i) (hi : i + 6 ≤ L) (hc : cells + 1 ≤ 601024 ∧ slots + 6 ≤ 7293034) (hI : Inv σC σM) (hH : LH GC GM σC σM f H) (hS : va_S (fun q => s.heap.size ≤ q) s.heap H locs) (hl : lv_has ls 7 (lwL b s.heap.size x4))
    (kend : ∀ (σC σM : Sto) (f : Nat → Int64) (H : Heap) (locs : List Loc) (ls : Array Slot), Inv σC σM → LH GC GM σC σM f H → va_S (fun q => s.heap.size ≤ q) s.heap H locs → lv_has ls 7 (lwL b s.heap.size x4) → W p l e room_1 s m #[Value.ref b] below meth c H locs (cells + 1) (slots + 6) Q (F0 m 1643 ls [])) : W p l e room_1 s m #[Value.ref b] below meth c H locs cells slots Q (F0 m 825 ls []) := by
  obtain ⟨hx, hb, hr, hml, hown, hts, hX, hbl, hlocks, hgv⟩ := id C.1
  have hbA : ¬ (fun q : Nat => s.heap.size ≤ q) b := Nat.not_le.mpr hbl
  have hL := C.2.1
  obtain ⟨v, τC, τM, h1, h2, hI2⟩ := hSp σC σM (xs (x4 + 1).toNatClampNeg) (xs (x4 + 2).toNatClampNeg) hI
  refine lv_aload_n hx hb dL_law_825 rfl (lv_at hl 1 rfl) ?_
  refine lv_aload_n hx hb dL_law_826 rfl (lv_at hl 0 rfl) ?_
  refine lv_iload hx hb dL_law_827 (lv_at hl 4 rfl) ?_
  refine lv_iconst (v := 1) hx hb dL_law_829 (by decide) ?_
  refine lv_iadd hx hb dL_law_830 ?_
  refine va_sld hx hb hX hbl hbA hS (vp_x ex hi hL (k := 1) (by decide) (by decide)) dL_law_831 ?_
  refine lv_aload_n hx hb dL_law_832 rfl (lv_at hl 0 rfl) ?_
  refine lv_iload hx hb dL_law_833 (lv_at hl 4 rfl) ?_
  refine lv_iconst (v := 2) hx hb dL_law_835 (by decide) ?_
  refine lv_iadd hx hb dL_law_836 ?_
  refine va_sld hx hb hX hbl hbA hS (vp_x ex hi hL (k := 2) (by decide) (by decide)) dL_law_837 ?_
  refine lw_cC (vs := [.int (xs (x4 + 1).toNatClampNeg), .int (xs (x4 + 2).toNatClampNeg)]) (rest := []) (τC := τC) (v := v) C (w_X11_buyer h1) mi_X11_buyer mv_X11_buyer ml_L_109 dL_law_838 rfl rfl ⟨Nat.le_of_ble_eq_true rfl, Nat.le_of_ble_eq_true rfl⟩ (Nat.le_of_ble_eq_true rfl) ⟨by omega, by omega⟩ rfl hH hS hl.1 (fun H locs hH hS => ?_)
  refine lv_aload_n hx hb dL_law_841 rfl (lv_at hl 2 rfl) ?_
  refine lv_aload_n hx hb dL_law_842 rfl (lv_at hl 0 rfl) ?_
  refine lv_iload hx hb dL_law_843 (lv_at hl 4 rfl) ?_
  refine lv_iconst (v := 1) hx hb dL_law_845 (by decide) ?_
  refine lv_iadd hx hb dL_law_846 ?_
  refine va_sld hx hb hX hbl hbA hS (vp_x ex hi hL (k := 1) (by decide) (by decide)) dL_law_847 ?_
  refine lv_aload_n hx hb dL_law_848 rfl (lv_at hl 0 rfl) ?_
  refine lv_iload hx hb dL_law_849 (lv_at hl 4 rfl) ?_
  refine lv_iconst (v := 2) hx hb dL_law_851 (by decide) ?_
  refine lv_iadd hx hb dL_law_852 ?_
  refine va_sld hx hb hX hbl hbA hS (vp_x ex hi hL (k := 2) (by decide) (by decide)) dL_law_853 ?_
  refine lw_cM (vs := [.int (xs (x4 + 1).toNatClampNeg), .int (xs (x4 + 2).toNatClampNeg)]) (rest := [.int v]) (τM := τM) (v := v) C (w_X12_buyer h2) mi_X12_buyer mv_X12_buyer ml_L_112 dL_law_854 rfl rfl ⟨Nat.le_of_ble_eq_true rfl, Nat.le_of_ble_eq_true rfl⟩ (Nat.le_of_ble_eq_true rfl) ⟨by omega, by omega⟩ rfl hH hS hl.1 (fun H locs hH hS => ?_)
  refine lv_icmp_eq (tgt := 1643) hx hb dL_law_857 (by decide) (fun _ => ?_) (fun q => absurd rfl q)
  refine W.widen (k := cells + 1) (n := slots + 6) (by omega) (by omega) ?_
  exact kend _ _ _ _ _ _ hI2 hH hS hl
set_option maxRecDepth 100000 in
set_option maxHeartbeats 4000000 in
theorem lc_units (hSp : Sp_units Inv) (C : LC p l s m meth c b L xs GC GM) {i : Nat} {x4 : Int32} (ex : x4 = nI i) (hi : i + 6 ≤ L) (hc : cells + 1 ≤ 601024 ∧ slots + 6 ≤ 7293034) (hI : Inv σC σM) (hH : LH GC GM σC σM f H) (hS : va_S (fun q => s.heap.size ≤ q) s.heap H locs) (hl : lv_has ls 7 (lwL b s.heap.size x4))
    (kend : ∀ (σC σM : Sto) (f : Nat → Int64) (H : Heap) (locs : List Loc) (ls : Array Slot), Inv σC σM → LH GC GM σC σM f H → va_S (fun q => s.heap.size ≤ q) s.heap H locs → lv_has ls 7 (lwL b s.heap.size x4) → W p l e room_1 s m #[Value.ref b] below meth c H locs (cells + 1) (slots + 6) Q (F0 m 1643 ls [])) : W p l e room_1 s m #[Value.ref b] below meth c H locs cells slots Q (F0 m 862 ls []) := by
  obtain ⟨hx, hb, hr, hml, hown, hts, hX, hbl, hlocks, hgv⟩ := id C.1
  have hbA : ¬ (fun q : Nat => s.heap.size ≤ q) b := Nat.not_le.mpr hbl
  have hL := C.2.1
  obtain ⟨v, τC, τM, h1, h2, hI2⟩ := hSp σC σM (xs (x4 + 1).toNatClampNeg) (xs (x4 + 2).toNatClampNeg) hI
  refine lv_aload_n hx hb dL_law_862 rfl (lv_at hl 1 rfl) ?_
  refine lv_aload_n hx hb dL_law_863 rfl (lv_at hl 0 rfl) ?_
  refine lv_iload hx hb dL_law_864 (lv_at hl 4 rfl) ?_
  refine lv_iconst (v := 1) hx hb dL_law_866 (by decide) ?_
  refine lv_iadd hx hb dL_law_867 ?_
  refine va_sld hx hb hX hbl hbA hS (vp_x ex hi hL (k := 1) (by decide) (by decide)) dL_law_868 ?_
  refine lv_aload_n hx hb dL_law_869 rfl (lv_at hl 0 rfl) ?_
  refine lv_iload hx hb dL_law_870 (lv_at hl 4 rfl) ?_
  refine lv_iconst (v := 2) hx hb dL_law_872 (by decide) ?_
  refine lv_iadd hx hb dL_law_873 ?_
  refine va_sld hx hb hX hbl hbA hS (vp_x ex hi hL (k := 2) (by decide) (by decide)) dL_law_874 ?_
  refine lw_cC (vs := [.int (xs (x4 + 1).toNatClampNeg), .int (xs (x4 + 2).toNatClampNeg)]) (rest := []) (τC := τC) (v := v) C (w_X11_units h1) mi_X11_units mv_X11_units ml_L_113 dL_law_875 rfl rfl ⟨Nat.le_of_ble_eq_true rfl, Nat.le_of_ble_eq_true rfl⟩ (Nat.le_of_ble_eq_true rfl) ⟨by omega, by omega⟩ rfl hH hS hl.1 (fun H locs hH hS => ?_)
  refine lv_aload_n hx hb dL_law_878 rfl (lv_at hl 2 rfl) ?_
  refine lv_aload_n hx hb dL_law_879 rfl (lv_at hl 0 rfl) ?_
  refine lv_iload hx hb dL_law_880 (lv_at hl 4 rfl) ?_
  refine lv_iconst (v := 1) hx hb dL_law_882 (by decide) ?_
  refine lv_iadd hx hb dL_law_883 ?_
  refine va_sld hx hb hX hbl hbA hS (vp_x ex hi hL (k := 1) (by decide) (by decide)) dL_law_884 ?_
  refine lv_aload_n hx hb dL_law_885 rfl (lv_at hl 0 rfl) ?_
  refine lv_iload hx hb dL_law_886 (lv_at hl 4 rfl) ?_
  refine lv_iconst (v := 2) hx hb dL_law_888 (by decide) ?_
  refine lv_iadd hx hb dL_law_889 ?_
  refine va_sld hx hb hX hbl hbA hS (vp_x ex hi hL (k := 2) (by decide) (by decide)) dL_law_890 ?_
  refine lw_cM (vs := [.int (xs (x4 + 1).toNatClampNeg), .int (xs (x4 + 2).toNatClampNeg)]) (rest := [.int v]) (τM := τM) (v := v) C (w_X12_units h2) mi_X12_units mv_X12_units ml_L_116 dL_law_891 rfl rfl ⟨Nat.le_of_ble_eq_true rfl, Nat.le_of_ble_eq_true rfl⟩ (Nat.le_of_ble_eq_true rfl) ⟨by omega, by omega⟩ rfl hH hS hl.1 (fun H locs hH hS => ?_)
  refine lv_icmp_eq (tgt := 1643) hx hb dL_law_894 (by decide) (fun _ => ?_) (fun q => absurd rfl q)
  refine W.widen (k := cells + 1) (n := slots + 6) (by omega) (by omega) ?_
  exact kend _ _ _ _ _ _ hI2 hH hS hl
set_option maxRecDepth 100000 in
set_option maxHeartbeats 4000000 in
theorem lc_hurt (hSp : Sp_hurt Inv) (C : LC p l s m meth c b L xs GC GM) {i : Nat} {x4 : Int32} (ex : x4 = nI i) (hi : i + 6 ≤ L) (hc : cells + 1 ≤ 601024 ∧ slots + 6 ≤ 7293034) (hI : Inv σC σM) (hH : LH GC GM σC σM f H) (hS : va_S (fun q => s.heap.size ≤ q) s.heap H locs) (hl : lv_has ls 7 (lwL b s.heap.size x4))
    (kend : ∀ (σC σM : Sto) (f : Nat → Int64) (H : Heap) (locs : List Loc) (ls : Array Slot), Inv σC σM → LH GC GM σC σM f H → va_S (fun q => s.heap.size ≤ q) s.heap H locs → lv_has ls 7 (lwL b s.heap.size x4) → W p l e room_1 s m #[Value.ref b] below meth c H locs (cells + 1) (slots + 6) Q (F0 m 1643 ls [])) : W p l e room_1 s m #[Value.ref b] below meth c H locs cells slots Q (F0 m 899 ls []) := by
  obtain ⟨hx, hb, hr, hml, hown, hts, hX, hbl, hlocks, hgv⟩ := id C.1
  have hbA : ¬ (fun q : Nat => s.heap.size ≤ q) b := Nat.not_le.mpr hbl
  have hL := C.2.1
  obtain ⟨v, τC, τM, h1, h2, hI2⟩ := hSp σC σM  hI
  refine lv_aload_n hx hb dL_law_899 rfl (lv_at hl 1 rfl) ?_
  refine lw_cC (vs := []) (rest := []) (τC := τC) (v := v) C (w_X11_hurt h1) mi_X11_hurt mv_X11_hurt ml_L_117 dL_law_900 rfl rfl ⟨Nat.le_of_ble_eq_true rfl, Nat.le_of_ble_eq_true rfl⟩ (Nat.le_of_ble_eq_true rfl) ⟨by omega, by omega⟩ rfl hH hS hl.1 (fun H locs hH hS => ?_)
  refine lv_aload_n hx hb dL_law_903 rfl (lv_at hl 2 rfl) ?_
  refine lw_cM (vs := []) (rest := [.int v]) (τM := τM) (v := v) C (w_X12_hurt h2) mi_X12_hurt mv_X12_hurt ml_L_120 dL_law_904 rfl rfl ⟨Nat.le_of_ble_eq_true rfl, Nat.le_of_ble_eq_true rfl⟩ (Nat.le_of_ble_eq_true rfl) ⟨by omega, by omega⟩ rfl hH hS hl.1 (fun H locs hH hS => ?_)
  refine lv_icmp_eq (tgt := 1643) hx hb dL_law_907 (by decide) (fun _ => ?_) (fun q => absurd rfl q)
  refine W.widen (k := cells + 1) (n := slots + 6) (by omega) (by omega) ?_
  exact kend _ _ _ _ _ _ hI2 hH hS hl
set_option maxRecDepth 100000 in
set_option maxHeartbeats 4000000 in
theorem lc_hardest (hSp : Sp_hardest Inv) (C : LC p l s m meth c b L xs GC GM) {i : Nat} {x4 : Int32} (ex : x4 = nI i) (hi : i + 6 ≤ L) (hc : cells + 1 ≤ 601024 ∧ slots + 6 ≤ 7293034) (hI : Inv σC σM) (hH : LH GC GM σC σM f H) (hS : va_S (fun q => s.heap.size ≤ q) s.heap H locs) (hl : lv_has ls 7 (lwL b s.heap.size x4))
    (kend : ∀ (σC σM : Sto) (f : Nat → Int64) (H : Heap) (locs : List Loc) (ls : Array Slot), Inv σC σM → LH GC GM σC σM f H → va_S (fun q => s.heap.size ≤ q) s.heap H locs → lv_has ls 7 (lwL b s.heap.size x4) → W p l e room_1 s m #[Value.ref b] below meth c H locs (cells + 1) (slots + 6) Q (F0 m 1643 ls [])) : W p l e room_1 s m #[Value.ref b] below meth c H locs cells slots Q (F0 m 912 ls []) := by
  obtain ⟨hx, hb, hr, hml, hown, hts, hX, hbl, hlocks, hgv⟩ := id C.1
  have hbA : ¬ (fun q : Nat => s.heap.size ≤ q) b := Nat.not_le.mpr hbl
  have hL := C.2.1
  obtain ⟨v, τC, τM, h1, h2, hI2⟩ := hSp σC σM  hI
  refine lv_aload_n hx hb dL_law_912 rfl (lv_at hl 1 rfl) ?_
  refine lw_cC (vs := []) (rest := []) (τC := τC) (v := v) C (w_X11_hardest h1) mi_X11_hardest mv_X11_hardest ml_L_121 dL_law_913 rfl rfl ⟨Nat.le_of_ble_eq_true rfl, Nat.le_of_ble_eq_true rfl⟩ (Nat.le_of_ble_eq_true rfl) ⟨by omega, by omega⟩ rfl hH hS hl.1 (fun H locs hH hS => ?_)
  refine lv_aload_n hx hb dL_law_916 rfl (lv_at hl 2 rfl) ?_
  refine lw_cM (vs := []) (rest := [.int v]) (τM := τM) (v := v) C (w_X12_hardest h2) mi_X12_hardest mv_X12_hardest ml_L_124 dL_law_917 rfl rfl ⟨Nat.le_of_ble_eq_true rfl, Nat.le_of_ble_eq_true rfl⟩ (Nat.le_of_ble_eq_true rfl) ⟨by omega, by omega⟩ rfl hH hS hl.1 (fun H locs hH hS => ?_)
  refine lv_icmp_eq (tgt := 1643) hx hb dL_law_920 (by decide) (fun _ => ?_) (fun q => absurd rfl q)
  refine W.widen (k := cells + 1) (n := slots + 6) (by omega) (by omega) ?_
  exact kend _ _ _ _ _ _ hI2 hH hS hl
set_option maxRecDepth 100000 in
set_option maxHeartbeats 4000000 in
theorem lc_gentle (hSp : Sp_gentle Inv) (C : LC p l s m meth c b L xs GC GM) {i : Nat} {x4 : Int32} (ex : x4 = nI i) (hi : i + 6 ≤ L) (hc : cells + 1 ≤ 601024 ∧ slots + 6 ≤ 7293034) (hI : Inv σC σM) (hH : LH GC GM σC σM f H) (hS : va_S (fun q => s.heap.size ≤ q) s.heap H locs) (hl : lv_has ls 7 (lwL b s.heap.size x4))
    (kend : ∀ (σC σM : Sto) (f : Nat → Int64) (H : Heap) (locs : List Loc) (ls : Array Slot), Inv σC σM → LH GC GM σC σM f H → va_S (fun q => s.heap.size ≤ q) s.heap H locs → lv_has ls 7 (lwL b s.heap.size x4) → W p l e room_1 s m #[Value.ref b] below meth c H locs (cells + 1) (slots + 6) Q (F0 m 1643 ls [])) : W p l e room_1 s m #[Value.ref b] below meth c H locs cells slots Q (F0 m 925 ls []) := by
  obtain ⟨hx, hb, hr, hml, hown, hts, hX, hbl, hlocks, hgv⟩ := id C.1
  have hbA : ¬ (fun q : Nat => s.heap.size ≤ q) b := Nat.not_le.mpr hbl
  have hL := C.2.1
  obtain ⟨v, τC, τM, h1, h2, hI2⟩ := hSp σC σM  hI
  refine lv_aload_n hx hb dL_law_925 rfl (lv_at hl 1 rfl) ?_
  refine lw_cC (vs := []) (rest := []) (τC := τC) (v := v) C (w_X11_gentle h1) mi_X11_gentle mv_X11_gentle ml_L_125 dL_law_926 rfl rfl ⟨Nat.le_of_ble_eq_true rfl, Nat.le_of_ble_eq_true rfl⟩ (Nat.le_of_ble_eq_true rfl) ⟨by omega, by omega⟩ rfl hH hS hl.1 (fun H locs hH hS => ?_)
  refine lv_aload_n hx hb dL_law_929 rfl (lv_at hl 2 rfl) ?_
  refine lw_cM (vs := []) (rest := [.int v]) (τM := τM) (v := v) C (w_X12_gentle h2) mi_X12_gentle mv_X12_gentle ml_L_128 dL_law_930 rfl rfl ⟨Nat.le_of_ble_eq_true rfl, Nat.le_of_ble_eq_true rfl⟩ (Nat.le_of_ble_eq_true rfl) ⟨by omega, by omega⟩ rfl hH hS hl.1 (fun H locs hH hS => ?_)
  refine lv_icmp_eq (tgt := 1643) hx hb dL_law_933 (by decide) (fun _ => ?_) (fun q => absurd rfl q)
  refine W.widen (k := cells + 1) (n := slots + 6) (by omega) (by omega) ?_
  exact kend _ _ _ _ _ _ hI2 hH hS hl
set_option maxRecDepth 100000 in
set_option maxHeartbeats 4000000 in
theorem lc_gentleOf (hSp : Sp_gentleOf Inv) (C : LC p l s m meth c b L xs GC GM) {i : Nat} {x4 : Int32} (ex : x4 = nI i) (hi : i + 6 ≤ L) (hc : cells + 1 ≤ 601024 ∧ slots + 6 ≤ 7293034) (hI : Inv σC σM) (hH : LH GC GM σC σM f H) (hS : va_S (fun q => s.heap.size ≤ q) s.heap H locs) (hl : lv_has ls 7 (lwL b s.heap.size x4))
    (kend : ∀ (σC σM : Sto) (f : Nat → Int64) (H : Heap) (locs : List Loc) (ls : Array Slot), Inv σC σM → LH GC GM σC σM f H → va_S (fun q => s.heap.size ≤ q) s.heap H locs → lv_has ls 7 (lwL b s.heap.size x4) → W p l e room_1 s m #[Value.ref b] below meth c H locs (cells + 1) (slots + 6) Q (F0 m 1643 ls [])) : W p l e room_1 s m #[Value.ref b] below meth c H locs cells slots Q (F0 m 938 ls []) := by
  obtain ⟨hx, hb, hr, hml, hown, hts, hX, hbl, hlocks, hgv⟩ := id C.1
  have hbA : ¬ (fun q : Nat => s.heap.size ≤ q) b := Nat.not_le.mpr hbl
  have hL := C.2.1
  obtain ⟨v, τC, τM, h1, h2, hI2⟩ := hSp σC σM (xs (x4 + 1).toNatClampNeg) hI
  refine lv_aload_n hx hb dL_law_938 rfl (lv_at hl 1 rfl) ?_
  refine lv_aload_n hx hb dL_law_939 rfl (lv_at hl 0 rfl) ?_
  refine lv_iload hx hb dL_law_940 (lv_at hl 4 rfl) ?_
  refine lv_iconst (v := 1) hx hb dL_law_942 (by decide) ?_
  refine lv_iadd hx hb dL_law_943 ?_
  refine va_sld hx hb hX hbl hbA hS (vp_x ex hi hL (k := 1) (by decide) (by decide)) dL_law_944 ?_
  refine lw_cC (vs := [.int (xs (x4 + 1).toNatClampNeg)]) (rest := []) (τC := τC) (v := v) C (w_X11_gentleOf h1) mi_X11_gentleOf mv_X11_gentleOf ml_L_129 dL_law_945 rfl rfl ⟨Nat.le_of_ble_eq_true rfl, Nat.le_of_ble_eq_true rfl⟩ (Nat.le_of_ble_eq_true rfl) ⟨by omega, by omega⟩ rfl hH hS hl.1 (fun H locs hH hS => ?_)
  refine lv_aload_n hx hb dL_law_948 rfl (lv_at hl 2 rfl) ?_
  refine lv_aload_n hx hb dL_law_949 rfl (lv_at hl 0 rfl) ?_
  refine lv_iload hx hb dL_law_950 (lv_at hl 4 rfl) ?_
  refine lv_iconst (v := 1) hx hb dL_law_952 (by decide) ?_
  refine lv_iadd hx hb dL_law_953 ?_
  refine va_sld hx hb hX hbl hbA hS (vp_x ex hi hL (k := 1) (by decide) (by decide)) dL_law_954 ?_
  refine lw_cM (vs := [.int (xs (x4 + 1).toNatClampNeg)]) (rest := [.int v]) (τM := τM) (v := v) C (w_X12_gentleOf h2) mi_X12_gentleOf mv_X12_gentleOf ml_L_132 dL_law_955 rfl rfl ⟨Nat.le_of_ble_eq_true rfl, Nat.le_of_ble_eq_true rfl⟩ (Nat.le_of_ble_eq_true rfl) ⟨by omega, by omega⟩ rfl hH hS hl.1 (fun H locs hH hS => ?_)
  refine lv_icmp_eq (tgt := 1643) hx hb dL_law_958 (by decide) (fun _ => ?_) (fun q => absurd rfl q)
  refine W.widen (k := cells + 1) (n := slots + 6) (by omega) (by omega) ?_
  exact kend _ _ _ _ _ _ hI2 hH hS hl
set_option maxRecDepth 100000 in
set_option maxHeartbeats 4000000 in
theorem lc_steady (hSp : Sp_steady Inv) (C : LC p l s m meth c b L xs GC GM) {i : Nat} {x4 : Int32} (ex : x4 = nI i) (hi : i + 6 ≤ L) (hc : cells + 1 ≤ 601024 ∧ slots + 6 ≤ 7293034) (hI : Inv σC σM) (hH : LH GC GM σC σM f H) (hS : va_S (fun q => s.heap.size ≤ q) s.heap H locs) (hl : lv_has ls 7 (lwL b s.heap.size x4))
    (kend : ∀ (σC σM : Sto) (f : Nat → Int64) (H : Heap) (locs : List Loc) (ls : Array Slot), Inv σC σM → LH GC GM σC σM f H → va_S (fun q => s.heap.size ≤ q) s.heap H locs → lv_has ls 7 (lwL b s.heap.size x4) → W p l e room_1 s m #[Value.ref b] below meth c H locs (cells + 1) (slots + 6) Q (F0 m 1643 ls [])) : W p l e room_1 s m #[Value.ref b] below meth c H locs cells slots Q (F0 m 963 ls []) := by
  obtain ⟨hx, hb, hr, hml, hown, hts, hX, hbl, hlocks, hgv⟩ := id C.1
  have hbA : ¬ (fun q : Nat => s.heap.size ≤ q) b := Nat.not_le.mpr hbl
  have hL := C.2.1
  obtain ⟨v, τC, τM, h1, h2, hI2⟩ := hSp σC σM (xs (x4 + 1).toNatClampNeg) hI
  refine lv_aload_n hx hb dL_law_963 rfl (lv_at hl 1 rfl) ?_
  refine lv_aload_n hx hb dL_law_964 rfl (lv_at hl 0 rfl) ?_
  refine lv_iload hx hb dL_law_965 (lv_at hl 4 rfl) ?_
  refine lv_iconst (v := 1) hx hb dL_law_967 (by decide) ?_
  refine lv_iadd hx hb dL_law_968 ?_
  refine va_sld hx hb hX hbl hbA hS (vp_x ex hi hL (k := 1) (by decide) (by decide)) dL_law_969 ?_
  refine lw_cC (vs := [.int (xs (x4 + 1).toNatClampNeg)]) (rest := []) (τC := τC) (v := v) C (w_X11_steady h1) mi_X11_steady mv_X11_steady ml_L_133 dL_law_970 rfl rfl ⟨Nat.le_of_ble_eq_true rfl, Nat.le_of_ble_eq_true rfl⟩ (Nat.le_of_ble_eq_true rfl) ⟨by omega, by omega⟩ rfl hH hS hl.1 (fun H locs hH hS => ?_)
  refine lv_aload_n hx hb dL_law_973 rfl (lv_at hl 2 rfl) ?_
  refine lv_aload_n hx hb dL_law_974 rfl (lv_at hl 0 rfl) ?_
  refine lv_iload hx hb dL_law_975 (lv_at hl 4 rfl) ?_
  refine lv_iconst (v := 1) hx hb dL_law_977 (by decide) ?_
  refine lv_iadd hx hb dL_law_978 ?_
  refine va_sld hx hb hX hbl hbA hS (vp_x ex hi hL (k := 1) (by decide) (by decide)) dL_law_979 ?_
  refine lw_cM (vs := [.int (xs (x4 + 1).toNatClampNeg)]) (rest := [.int v]) (τM := τM) (v := v) C (w_X12_steady h2) mi_X12_steady mv_X12_steady ml_L_136 dL_law_980 rfl rfl ⟨Nat.le_of_ble_eq_true rfl, Nat.le_of_ble_eq_true rfl⟩ (Nat.le_of_ble_eq_true rfl) ⟨by omega, by omega⟩ rfl hH hS hl.1 (fun H locs hH hS => ?_)
  refine lv_icmp_eq (tgt := 1643) hx hb dL_law_983 (by decide) (fun _ => ?_) (fun q => absurd rfl q)
  refine W.widen (k := cells + 1) (n := slots + 6) (by omega) (by omega) ?_
  exact kend _ _ _ _ _ _ hI2 hH hS hl
set_option maxRecDepth 100000 in
set_option maxHeartbeats 4000000 in
theorem lc_steadyOf (hSp : Sp_steadyOf Inv) (C : LC p l s m meth c b L xs GC GM) {i : Nat} {x4 : Int32} (ex : x4 = nI i) (hi : i + 6 ≤ L) (hc : cells + 1 ≤ 601024 ∧ slots + 6 ≤ 7293034) (hI : Inv σC σM) (hH : LH GC GM σC σM f H) (hS : va_S (fun q => s.heap.size ≤ q) s.heap H locs) (hl : lv_has ls 7 (lwL b s.heap.size x4))
    (kend : ∀ (σC σM : Sto) (f : Nat → Int64) (H : Heap) (locs : List Loc) (ls : Array Slot), Inv σC σM → LH GC GM σC σM f H → va_S (fun q => s.heap.size ≤ q) s.heap H locs → lv_has ls 7 (lwL b s.heap.size x4) → W p l e room_1 s m #[Value.ref b] below meth c H locs (cells + 1) (slots + 6) Q (F0 m 1643 ls [])) : W p l e room_1 s m #[Value.ref b] below meth c H locs cells slots Q (F0 m 988 ls []) := by
  obtain ⟨hx, hb, hr, hml, hown, hts, hX, hbl, hlocks, hgv⟩ := id C.1
  have hbA : ¬ (fun q : Nat => s.heap.size ≤ q) b := Nat.not_le.mpr hbl
  have hL := C.2.1
  obtain ⟨v, τC, τM, h1, h2, hI2⟩ := hSp σC σM (xs (x4 + 1).toNatClampNeg) (xs (x4 + 2).toNatClampNeg) hI
  refine lv_aload_n hx hb dL_law_988 rfl (lv_at hl 1 rfl) ?_
  refine lv_aload_n hx hb dL_law_989 rfl (lv_at hl 0 rfl) ?_
  refine lv_iload hx hb dL_law_990 (lv_at hl 4 rfl) ?_
  refine lv_iconst (v := 1) hx hb dL_law_992 (by decide) ?_
  refine lv_iadd hx hb dL_law_993 ?_
  refine va_sld hx hb hX hbl hbA hS (vp_x ex hi hL (k := 1) (by decide) (by decide)) dL_law_994 ?_
  refine lv_aload_n hx hb dL_law_995 rfl (lv_at hl 0 rfl) ?_
  refine lv_iload hx hb dL_law_996 (lv_at hl 4 rfl) ?_
  refine lv_iconst (v := 2) hx hb dL_law_998 (by decide) ?_
  refine lv_iadd hx hb dL_law_999 ?_
  refine va_sld hx hb hX hbl hbA hS (vp_x ex hi hL (k := 2) (by decide) (by decide)) dL_law_1000 ?_
  refine lw_cC (vs := [.int (xs (x4 + 1).toNatClampNeg), .int (xs (x4 + 2).toNatClampNeg)]) (rest := []) (τC := τC) (v := v) C (w_X11_steadyOf h1) mi_X11_steadyOf mv_X11_steadyOf ml_L_137 dL_law_1001 rfl rfl ⟨Nat.le_of_ble_eq_true rfl, Nat.le_of_ble_eq_true rfl⟩ (Nat.le_of_ble_eq_true rfl) ⟨by omega, by omega⟩ rfl hH hS hl.1 (fun H locs hH hS => ?_)
  refine lv_aload_n hx hb dL_law_1004 rfl (lv_at hl 2 rfl) ?_
  refine lv_aload_n hx hb dL_law_1005 rfl (lv_at hl 0 rfl) ?_
  refine lv_iload hx hb dL_law_1006 (lv_at hl 4 rfl) ?_
  refine lv_iconst (v := 1) hx hb dL_law_1008 (by decide) ?_
  refine lv_iadd hx hb dL_law_1009 ?_
  refine va_sld hx hb hX hbl hbA hS (vp_x ex hi hL (k := 1) (by decide) (by decide)) dL_law_1010 ?_
  refine lv_aload_n hx hb dL_law_1011 rfl (lv_at hl 0 rfl) ?_
  refine lv_iload hx hb dL_law_1012 (lv_at hl 4 rfl) ?_
  refine lv_iconst (v := 2) hx hb dL_law_1014 (by decide) ?_
  refine lv_iadd hx hb dL_law_1015 ?_
  refine va_sld hx hb hX hbl hbA hS (vp_x ex hi hL (k := 2) (by decide) (by decide)) dL_law_1016 ?_
  refine lw_cM (vs := [.int (xs (x4 + 1).toNatClampNeg), .int (xs (x4 + 2).toNatClampNeg)]) (rest := [.int v]) (τM := τM) (v := v) C (w_X12_steadyOf h2) mi_X12_steadyOf mv_X12_steadyOf ml_L_140 dL_law_1017 rfl rfl ⟨Nat.le_of_ble_eq_true rfl, Nat.le_of_ble_eq_true rfl⟩ (Nat.le_of_ble_eq_true rfl) ⟨by omega, by omega⟩ rfl hH hS hl.1 (fun H locs hH hS => ?_)
  refine lv_icmp_eq (tgt := 1643) hx hb dL_law_1020 (by decide) (fun _ => ?_) (fun q => absurd rfl q)
  refine W.widen (k := cells + 1) (n := slots + 6) (by omega) (by omega) ?_
  exact kend _ _ _ _ _ _ hI2 hH hS hl
set_option maxRecDepth 100000 in
set_option maxHeartbeats 4000000 in
theorem lc_level (hSp : Sp_level Inv) (C : LC p l s m meth c b L xs GC GM) {i : Nat} {x4 : Int32} (ex : x4 = nI i) (hi : i + 6 ≤ L) (hc : cells + 1 ≤ 601024 ∧ slots + 6 ≤ 7293034) (hI : Inv σC σM) (hH : LH GC GM σC σM f H) (hS : va_S (fun q => s.heap.size ≤ q) s.heap H locs) (hl : lv_has ls 7 (lwL b s.heap.size x4))
    (kend : ∀ (σC σM : Sto) (f : Nat → Int64) (H : Heap) (locs : List Loc) (ls : Array Slot), Inv σC σM → LH GC GM σC σM f H → va_S (fun q => s.heap.size ≤ q) s.heap H locs → lv_has ls 7 (lwL b s.heap.size x4) → W p l e room_1 s m #[Value.ref b] below meth c H locs (cells + 1) (slots + 6) Q (F0 m 1643 ls [])) : W p l e room_1 s m #[Value.ref b] below meth c H locs cells slots Q (F0 m 1025 ls []) := by
  obtain ⟨hx, hb, hr, hml, hown, hts, hX, hbl, hlocks, hgv⟩ := id C.1
  have hbA : ¬ (fun q : Nat => s.heap.size ≤ q) b := Nat.not_le.mpr hbl
  have hL := C.2.1
  obtain ⟨v, τC, τM, h1, h2, hI2⟩ := hSp σC σM (xs (x4 + 1).toNatClampNeg) (xs (x4 + 2).toNatClampNeg) hI
  refine lv_aload_n hx hb dL_law_1025 rfl (lv_at hl 1 rfl) ?_
  refine lv_aload_n hx hb dL_law_1026 rfl (lv_at hl 0 rfl) ?_
  refine lv_iload hx hb dL_law_1027 (lv_at hl 4 rfl) ?_
  refine lv_iconst (v := 1) hx hb dL_law_1029 (by decide) ?_
  refine lv_iadd hx hb dL_law_1030 ?_
  refine va_sld hx hb hX hbl hbA hS (vp_x ex hi hL (k := 1) (by decide) (by decide)) dL_law_1031 ?_
  refine lv_aload_n hx hb dL_law_1032 rfl (lv_at hl 0 rfl) ?_
  refine lv_iload hx hb dL_law_1033 (lv_at hl 4 rfl) ?_
  refine lv_iconst (v := 2) hx hb dL_law_1035 (by decide) ?_
  refine lv_iadd hx hb dL_law_1036 ?_
  refine va_sld hx hb hX hbl hbA hS (vp_x ex hi hL (k := 2) (by decide) (by decide)) dL_law_1037 ?_
  refine lw_cC (vs := [.int (xs (x4 + 1).toNatClampNeg), .int (xs (x4 + 2).toNatClampNeg)]) (rest := []) (τC := τC) (v := v) C (w_X11_level h1) mi_X11_level mv_X11_level ml_L_141 dL_law_1038 rfl rfl ⟨Nat.le_of_ble_eq_true rfl, Nat.le_of_ble_eq_true rfl⟩ (Nat.le_of_ble_eq_true rfl) ⟨by omega, by omega⟩ rfl hH hS hl.1 (fun H locs hH hS => ?_)
  refine lv_aload_n hx hb dL_law_1041 rfl (lv_at hl 2 rfl) ?_
  refine lv_aload_n hx hb dL_law_1042 rfl (lv_at hl 0 rfl) ?_
  refine lv_iload hx hb dL_law_1043 (lv_at hl 4 rfl) ?_
  refine lv_iconst (v := 1) hx hb dL_law_1045 (by decide) ?_
  refine lv_iadd hx hb dL_law_1046 ?_
  refine va_sld hx hb hX hbl hbA hS (vp_x ex hi hL (k := 1) (by decide) (by decide)) dL_law_1047 ?_
  refine lv_aload_n hx hb dL_law_1048 rfl (lv_at hl 0 rfl) ?_
  refine lv_iload hx hb dL_law_1049 (lv_at hl 4 rfl) ?_
  refine lv_iconst (v := 2) hx hb dL_law_1051 (by decide) ?_
  refine lv_iadd hx hb dL_law_1052 ?_
  refine va_sld hx hb hX hbl hbA hS (vp_x ex hi hL (k := 2) (by decide) (by decide)) dL_law_1053 ?_
  refine lw_cM (vs := [.int (xs (x4 + 1).toNatClampNeg), .int (xs (x4 + 2).toNatClampNeg)]) (rest := [.int v]) (τM := τM) (v := v) C (w_X12_level h2) mi_X12_level mv_X12_level ml_L_144 dL_law_1054 rfl rfl ⟨Nat.le_of_ble_eq_true rfl, Nat.le_of_ble_eq_true rfl⟩ (Nat.le_of_ble_eq_true rfl) ⟨by omega, by omega⟩ rfl hH hS hl.1 (fun H locs hH hS => ?_)
  refine lv_icmp_eq (tgt := 1643) hx hb dL_law_1057 (by decide) (fun _ => ?_) (fun q => absurd rfl q)
  refine W.widen (k := cells + 1) (n := slots + 6) (by omega) (by omega) ?_
  exact kend _ _ _ _ _ _ hI2 hH hS hl
set_option maxRecDepth 100000 in
set_option maxHeartbeats 4000000 in
theorem lc_trade (hSp : Sp_trade Inv) (C : LC p l s m meth c b L xs GC GM) {i : Nat} {x4 : Int32} (ex : x4 = nI i) (hi : i + 6 ≤ L) (hc : cells + 1 ≤ 601024 ∧ slots + 6 ≤ 7293034) (hI : Inv σC σM) (hH : LH GC GM σC σM f H) (hS : va_S (fun q => s.heap.size ≤ q) s.heap H locs) (hl : lv_has ls 7 (lwL b s.heap.size x4))
    (kend : ∀ (σC σM : Sto) (f : Nat → Int64) (H : Heap) (locs : List Loc) (ls : Array Slot), Inv σC σM → LH GC GM σC σM f H → va_S (fun q => s.heap.size ≤ q) s.heap H locs → lv_has ls 7 (lwL b s.heap.size x4) → W p l e room_1 s m #[Value.ref b] below meth c H locs (cells + 1) (slots + 6) Q (F0 m 1643 ls [])) : W p l e room_1 s m #[Value.ref b] below meth c H locs cells slots Q (F0 m 1062 ls []) := by
  obtain ⟨hx, hb, hr, hml, hown, hts, hX, hbl, hlocks, hgv⟩ := id C.1
  have hbA : ¬ (fun q : Nat => s.heap.size ≤ q) b := Nat.not_le.mpr hbl
  have hL := C.2.1
  obtain ⟨v, τC, τM, h1, h2, hI2⟩ := hSp σC σM (xs (x4 + 1).toNatClampNeg) hI
  refine lv_aload_n hx hb dL_law_1062 rfl (lv_at hl 1 rfl) ?_
  refine lv_aload_n hx hb dL_law_1063 rfl (lv_at hl 0 rfl) ?_
  refine lv_iload hx hb dL_law_1064 (lv_at hl 4 rfl) ?_
  refine lv_iconst (v := 1) hx hb dL_law_1066 (by decide) ?_
  refine lv_iadd hx hb dL_law_1067 ?_
  refine va_sld hx hb hX hbl hbA hS (vp_x ex hi hL (k := 1) (by decide) (by decide)) dL_law_1068 ?_
  refine lw_cC (vs := [.int (xs (x4 + 1).toNatClampNeg)]) (rest := []) (τC := τC) (v := v) C (w_X11_trade h1) mi_X11_trade mv_X11_trade ml_L_145 dL_law_1069 rfl rfl ⟨Nat.le_of_ble_eq_true rfl, Nat.le_of_ble_eq_true rfl⟩ (Nat.le_of_ble_eq_true rfl) ⟨by omega, by omega⟩ rfl hH hS hl.1 (fun H locs hH hS => ?_)
  refine lv_aload_n hx hb dL_law_1072 rfl (lv_at hl 2 rfl) ?_
  refine lv_aload_n hx hb dL_law_1073 rfl (lv_at hl 0 rfl) ?_
  refine lv_iload hx hb dL_law_1074 (lv_at hl 4 rfl) ?_
  refine lv_iconst (v := 1) hx hb dL_law_1076 (by decide) ?_
  refine lv_iadd hx hb dL_law_1077 ?_
  refine va_sld hx hb hX hbl hbA hS (vp_x ex hi hL (k := 1) (by decide) (by decide)) dL_law_1078 ?_
  refine lw_cM (vs := [.int (xs (x4 + 1).toNatClampNeg)]) (rest := [.int v]) (τM := τM) (v := v) C (w_X12_trade h2) mi_X12_trade mv_X12_trade ml_L_148 dL_law_1079 rfl rfl ⟨Nat.le_of_ble_eq_true rfl, Nat.le_of_ble_eq_true rfl⟩ (Nat.le_of_ble_eq_true rfl) ⟨by omega, by omega⟩ rfl hH hS hl.1 (fun H locs hH hS => ?_)
  refine lv_icmp_eq (tgt := 1643) hx hb dL_law_1082 (by decide) (fun _ => ?_) (fun q => absurd rfl q)
  refine W.widen (k := cells + 1) (n := slots + 6) (by omega) (by omega) ?_
  exact kend _ _ _ _ _ _ hI2 hH hS hl
set_option maxRecDepth 100000 in
set_option maxHeartbeats 4000000 in
theorem lc_reach (hSp : Sp_reach Inv) (C : LC p l s m meth c b L xs GC GM) {i : Nat} {x4 : Int32} (ex : x4 = nI i) (hi : i + 6 ≤ L) (hc : cells + 1 ≤ 601024 ∧ slots + 6 ≤ 7293034) (hI : Inv σC σM) (hH : LH GC GM σC σM f H) (hS : va_S (fun q => s.heap.size ≤ q) s.heap H locs) (hl : lv_has ls 7 (lwL b s.heap.size x4))
    (kend : ∀ (σC σM : Sto) (f : Nat → Int64) (H : Heap) (locs : List Loc) (ls : Array Slot), Inv σC σM → LH GC GM σC σM f H → va_S (fun q => s.heap.size ≤ q) s.heap H locs → lv_has ls 7 (lwL b s.heap.size x4) → W p l e room_1 s m #[Value.ref b] below meth c H locs (cells + 1) (slots + 6) Q (F0 m 1643 ls [])) : W p l e room_1 s m #[Value.ref b] below meth c H locs cells slots Q (F0 m 1087 ls []) := by
  obtain ⟨hx, hb, hr, hml, hown, hts, hX, hbl, hlocks, hgv⟩ := id C.1
  have hbA : ¬ (fun q : Nat => s.heap.size ≤ q) b := Nat.not_le.mpr hbl
  have hL := C.2.1
  obtain ⟨v, τC, τM, h1, h2, hI2⟩ := hSp σC σM (xs (x4 + 1).toNatClampNeg) hI
  refine lv_aload_n hx hb dL_law_1087 rfl (lv_at hl 1 rfl) ?_
  refine lv_aload_n hx hb dL_law_1088 rfl (lv_at hl 0 rfl) ?_
  refine lv_iload hx hb dL_law_1089 (lv_at hl 4 rfl) ?_
  refine lv_iconst (v := 1) hx hb dL_law_1091 (by decide) ?_
  refine lv_iadd hx hb dL_law_1092 ?_
  refine va_sld hx hb hX hbl hbA hS (vp_x ex hi hL (k := 1) (by decide) (by decide)) dL_law_1093 ?_
  refine lw_cC (vs := [.int (xs (x4 + 1).toNatClampNeg)]) (rest := []) (τC := τC) (v := v) C (w_X11_reach h1) mi_X11_reach mv_X11_reach ml_L_149 dL_law_1094 rfl rfl ⟨Nat.le_of_ble_eq_true rfl, Nat.le_of_ble_eq_true rfl⟩ (Nat.le_of_ble_eq_true rfl) ⟨by omega, by omega⟩ rfl hH hS hl.1 (fun H locs hH hS => ?_)
  refine lv_aload_n hx hb dL_law_1097 rfl (lv_at hl 2 rfl) ?_
  refine lv_aload_n hx hb dL_law_1098 rfl (lv_at hl 0 rfl) ?_
  refine lv_iload hx hb dL_law_1099 (lv_at hl 4 rfl) ?_
  refine lv_iconst (v := 1) hx hb dL_law_1101 (by decide) ?_
  refine lv_iadd hx hb dL_law_1102 ?_
  refine va_sld hx hb hX hbl hbA hS (vp_x ex hi hL (k := 1) (by decide) (by decide)) dL_law_1103 ?_
  refine lw_cM (vs := [.int (xs (x4 + 1).toNatClampNeg)]) (rest := [.int v]) (τM := τM) (v := v) C (w_X12_reach h2) mi_X12_reach mv_X12_reach ml_L_152 dL_law_1104 rfl rfl ⟨Nat.le_of_ble_eq_true rfl, Nat.le_of_ble_eq_true rfl⟩ (Nat.le_of_ble_eq_true rfl) ⟨by omega, by omega⟩ rfl hH hS hl.1 (fun H locs hH hS => ?_)
  refine lv_icmp_eq (tgt := 1643) hx hb dL_law_1107 (by decide) (fun _ => ?_) (fun q => absurd rfl q)
  refine W.widen (k := cells + 1) (n := slots + 6) (by omega) (by omega) ?_
  exact kend _ _ _ _ _ _ hI2 hH hS hl
set_option maxRecDepth 100000 in
set_option maxHeartbeats 4000000 in
theorem lc_next (hSp : Sp_next Inv) (C : LC p l s m meth c b L xs GC GM) {i : Nat} {x4 : Int32} (ex : x4 = nI i) (hi : i + 6 ≤ L) (hc : cells + 1 ≤ 601024 ∧ slots + 6 ≤ 7293034) (hI : Inv σC σM) (hH : LH GC GM σC σM f H) (hS : va_S (fun q => s.heap.size ≤ q) s.heap H locs) (hl : lv_has ls 7 (lwL b s.heap.size x4))
    (kend : ∀ (σC σM : Sto) (f : Nat → Int64) (H : Heap) (locs : List Loc) (ls : Array Slot), Inv σC σM → LH GC GM σC σM f H → va_S (fun q => s.heap.size ≤ q) s.heap H locs → lv_has ls 7 (lwL b s.heap.size x4) → W p l e room_1 s m #[Value.ref b] below meth c H locs (cells + 1) (slots + 6) Q (F0 m 1643 ls [])) : W p l e room_1 s m #[Value.ref b] below meth c H locs cells slots Q (F0 m 1112 ls []) := by
  obtain ⟨hx, hb, hr, hml, hown, hts, hX, hbl, hlocks, hgv⟩ := id C.1
  have hbA : ¬ (fun q : Nat => s.heap.size ≤ q) b := Nat.not_le.mpr hbl
  have hL := C.2.1
  obtain ⟨v, τC, τM, h1, h2, hI2⟩ := hSp σC σM  hI
  refine lv_aload_n hx hb dL_law_1112 rfl (lv_at hl 1 rfl) ?_
  refine lw_cC (vs := []) (rest := []) (τC := τC) (v := v) C (w_X11_next h1) mi_X11_next mv_X11_next ml_L_153 dL_law_1113 rfl rfl ⟨Nat.le_of_ble_eq_true rfl, Nat.le_of_ble_eq_true rfl⟩ (Nat.le_of_ble_eq_true rfl) ⟨by omega, by omega⟩ rfl hH hS hl.1 (fun H locs hH hS => ?_)
  refine lv_aload_n hx hb dL_law_1116 rfl (lv_at hl 2 rfl) ?_
  refine lw_cM (vs := []) (rest := [.int v]) (τM := τM) (v := v) C (w_X12_next h2) mi_X12_next mv_X12_next ml_L_156 dL_law_1117 rfl rfl ⟨Nat.le_of_ble_eq_true rfl, Nat.le_of_ble_eq_true rfl⟩ (Nat.le_of_ble_eq_true rfl) ⟨by omega, by omega⟩ rfl hH hS hl.1 (fun H locs hH hS => ?_)
  refine lv_icmp_eq (tgt := 1643) hx hb dL_law_1120 (by decide) (fun _ => ?_) (fun q => absurd rfl q)
  refine W.widen (k := cells + 1) (n := slots + 6) (by omega) (by omega) ?_
  exact kend _ _ _ _ _ _ hI2 hH hS hl
set_option maxRecDepth 100000 in
set_option maxHeartbeats 4000000 in
theorem lc_gains (hSp : Sp_gains Inv) (C : LC p l s m meth c b L xs GC GM) {i : Nat} {x4 : Int32} (ex : x4 = nI i) (hi : i + 6 ≤ L) (hc : cells + 1 ≤ 601024 ∧ slots + 6 ≤ 7293034) (hI : Inv σC σM) (hH : LH GC GM σC σM f H) (hS : va_S (fun q => s.heap.size ≤ q) s.heap H locs) (hl : lv_has ls 7 (lwL b s.heap.size x4))
    (kend : ∀ (σC σM : Sto) (f : Nat → Int64) (H : Heap) (locs : List Loc) (ls : Array Slot), Inv σC σM → LH GC GM σC σM f H → va_S (fun q => s.heap.size ≤ q) s.heap H locs → lv_has ls 7 (lwL b s.heap.size x4) → W p l e room_1 s m #[Value.ref b] below meth c H locs (cells + 1) (slots + 6) Q (F0 m 1643 ls [])) : W p l e room_1 s m #[Value.ref b] below meth c H locs cells slots Q (F0 m 1125 ls []) := by
  obtain ⟨hx, hb, hr, hml, hown, hts, hX, hbl, hlocks, hgv⟩ := id C.1
  have hbA : ¬ (fun q : Nat => s.heap.size ≤ q) b := Nat.not_le.mpr hbl
  have hL := C.2.1
  obtain ⟨v, τC, τM, h1, h2, hI2⟩ := hSp σC σM (xs (x4 + 1).toNatClampNeg) hI
  refine lv_aload_n hx hb dL_law_1125 rfl (lv_at hl 1 rfl) ?_
  refine lv_aload_n hx hb dL_law_1126 rfl (lv_at hl 0 rfl) ?_
  refine lv_iload hx hb dL_law_1127 (lv_at hl 4 rfl) ?_
  refine lv_iconst (v := 1) hx hb dL_law_1129 (by decide) ?_
  refine lv_iadd hx hb dL_law_1130 ?_
  refine va_sld hx hb hX hbl hbA hS (vp_x ex hi hL (k := 1) (by decide) (by decide)) dL_law_1131 ?_
  refine lw_cC (vs := [.int (xs (x4 + 1).toNatClampNeg)]) (rest := []) (τC := τC) (v := v) C (w_X11_gains h1) mi_X11_gains mv_X11_gains ml_L_157 dL_law_1132 rfl rfl ⟨Nat.le_of_ble_eq_true rfl, Nat.le_of_ble_eq_true rfl⟩ (Nat.le_of_ble_eq_true rfl) ⟨by omega, by omega⟩ rfl hH hS hl.1 (fun H locs hH hS => ?_)
  refine lv_aload_n hx hb dL_law_1135 rfl (lv_at hl 2 rfl) ?_
  refine lv_aload_n hx hb dL_law_1136 rfl (lv_at hl 0 rfl) ?_
  refine lv_iload hx hb dL_law_1137 (lv_at hl 4 rfl) ?_
  refine lv_iconst (v := 1) hx hb dL_law_1139 (by decide) ?_
  refine lv_iadd hx hb dL_law_1140 ?_
  refine va_sld hx hb hX hbl hbA hS (vp_x ex hi hL (k := 1) (by decide) (by decide)) dL_law_1141 ?_
  refine lw_cM (vs := [.int (xs (x4 + 1).toNatClampNeg)]) (rest := [.int v]) (τM := τM) (v := v) C (w_X12_gains h2) mi_X12_gains mv_X12_gains ml_L_160 dL_law_1142 rfl rfl ⟨Nat.le_of_ble_eq_true rfl, Nat.le_of_ble_eq_true rfl⟩ (Nat.le_of_ble_eq_true rfl) ⟨by omega, by omega⟩ rfl hH hS hl.1 (fun H locs hH hS => ?_)
  refine lv_icmp_eq (tgt := 1643) hx hb dL_law_1145 (by decide) (fun _ => ?_) (fun q => absurd rfl q)
  refine W.widen (k := cells + 1) (n := slots + 6) (by omega) (by omega) ?_
  exact kend _ _ _ _ _ _ hI2 hH hS hl
set_option maxRecDepth 100000 in
set_option maxHeartbeats 4000000 in
theorem lc_share (hSp : Sp_share Inv) (C : LC p l s m meth c b L xs GC GM) {i : Nat} {x4 : Int32} (ex : x4 = nI i) (hi : i + 6 ≤ L) (hc : cells + 1 ≤ 601024 ∧ slots + 6 ≤ 7293034) (hI : Inv σC σM) (hH : LH GC GM σC σM f H) (hS : va_S (fun q => s.heap.size ≤ q) s.heap H locs) (hl : lv_has ls 7 (lwL b s.heap.size x4))
    (kend : ∀ (σC σM : Sto) (f : Nat → Int64) (H : Heap) (locs : List Loc) (ls : Array Slot), Inv σC σM → LH GC GM σC σM f H → va_S (fun q => s.heap.size ≤ q) s.heap H locs → lv_has ls 7 (lwL b s.heap.size x4) → W p l e room_1 s m #[Value.ref b] below meth c H locs (cells + 1) (slots + 6) Q (F0 m 1643 ls [])) : W p l e room_1 s m #[Value.ref b] below meth c H locs cells slots Q (F0 m 1150 ls []) := by
  obtain ⟨hx, hb, hr, hml, hown, hts, hX, hbl, hlocks, hgv⟩ := id C.1
  have hbA : ¬ (fun q : Nat => s.heap.size ≤ q) b := Nat.not_le.mpr hbl
  have hL := C.2.1
  obtain ⟨v, τC, τM, h1, h2, hI2⟩ := hSp σC σM (xs (x4 + 1).toNatClampNeg) (xs (x4 + 2).toNatClampNeg) hI
  refine lv_aload_n hx hb dL_law_1150 rfl (lv_at hl 1 rfl) ?_
  refine lv_aload_n hx hb dL_law_1151 rfl (lv_at hl 0 rfl) ?_
  refine lv_iload hx hb dL_law_1152 (lv_at hl 4 rfl) ?_
  refine lv_iconst (v := 1) hx hb dL_law_1154 (by decide) ?_
  refine lv_iadd hx hb dL_law_1155 ?_
  refine va_sld hx hb hX hbl hbA hS (vp_x ex hi hL (k := 1) (by decide) (by decide)) dL_law_1156 ?_
  refine lv_aload_n hx hb dL_law_1157 rfl (lv_at hl 0 rfl) ?_
  refine lv_iload hx hb dL_law_1158 (lv_at hl 4 rfl) ?_
  refine lv_iconst (v := 2) hx hb dL_law_1160 (by decide) ?_
  refine lv_iadd hx hb dL_law_1161 ?_
  refine va_sld hx hb hX hbl hbA hS (vp_x ex hi hL (k := 2) (by decide) (by decide)) dL_law_1162 ?_
  refine lw_cC (vs := [.int (xs (x4 + 1).toNatClampNeg), .int (xs (x4 + 2).toNatClampNeg)]) (rest := []) (τC := τC) (v := v) C (w_X11_share h1) mi_X11_share mv_X11_share ml_L_161 dL_law_1163 rfl rfl ⟨Nat.le_of_ble_eq_true rfl, Nat.le_of_ble_eq_true rfl⟩ (Nat.le_of_ble_eq_true rfl) ⟨by omega, by omega⟩ rfl hH hS hl.1 (fun H locs hH hS => ?_)
  refine lv_aload_n hx hb dL_law_1166 rfl (lv_at hl 2 rfl) ?_
  refine lv_aload_n hx hb dL_law_1167 rfl (lv_at hl 0 rfl) ?_
  refine lv_iload hx hb dL_law_1168 (lv_at hl 4 rfl) ?_
  refine lv_iconst (v := 1) hx hb dL_law_1170 (by decide) ?_
  refine lv_iadd hx hb dL_law_1171 ?_
  refine va_sld hx hb hX hbl hbA hS (vp_x ex hi hL (k := 1) (by decide) (by decide)) dL_law_1172 ?_
  refine lv_aload_n hx hb dL_law_1173 rfl (lv_at hl 0 rfl) ?_
  refine lv_iload hx hb dL_law_1174 (lv_at hl 4 rfl) ?_
  refine lv_iconst (v := 2) hx hb dL_law_1176 (by decide) ?_
  refine lv_iadd hx hb dL_law_1177 ?_
  refine va_sld hx hb hX hbl hbA hS (vp_x ex hi hL (k := 2) (by decide) (by decide)) dL_law_1178 ?_
  refine lw_cM (vs := [.int (xs (x4 + 1).toNatClampNeg), .int (xs (x4 + 2).toNatClampNeg)]) (rest := [.int v]) (τM := τM) (v := v) C (w_X12_share h2) mi_X12_share mv_X12_share ml_L_164 dL_law_1179 rfl rfl ⟨Nat.le_of_ble_eq_true rfl, Nat.le_of_ble_eq_true rfl⟩ (Nat.le_of_ble_eq_true rfl) ⟨by omega, by omega⟩ rfl hH hS hl.1 (fun H locs hH hS => ?_)
  refine lv_icmp_eq (tgt := 1643) hx hb dL_law_1182 (by decide) (fun _ => ?_) (fun q => absurd rfl q)
  refine W.widen (k := cells + 1) (n := slots + 6) (by omega) (by omega) ?_
  exact kend _ _ _ _ _ _ hI2 hH hS hl
set_option maxRecDepth 100000 in
set_option maxHeartbeats 4000000 in
theorem lc_write (hSp : Sp_write Inv) (C : LC p l s m meth c b L xs GC GM) {i : Nat} {x4 : Int32} (ex : x4 = nI i) (hi : i + 6 ≤ L) (hc : cells + 1 ≤ 601024 ∧ slots + 6 ≤ 7293034) (hI : Inv σC σM) (hH : LH GC GM σC σM f H) (hS : va_S (fun q => s.heap.size ≤ q) s.heap H locs) (hl : lv_has ls 7 (lwL b s.heap.size x4))
    (kend : ∀ (σC σM : Sto) (f : Nat → Int64) (H : Heap) (locs : List Loc) (ls : Array Slot), Inv σC σM → LH GC GM σC σM f H → va_S (fun q => s.heap.size ≤ q) s.heap H locs → lv_has ls 7 (lwL b s.heap.size x4) → W p l e room_1 s m #[Value.ref b] below meth c H locs (cells + 1) (slots + 6) Q (F0 m 1643 ls [])) : W p l e room_1 s m #[Value.ref b] below meth c H locs cells slots Q (F0 m 1187 ls []) := by
  obtain ⟨hx, hb, hr, hml, hown, hts, hX, hbl, hlocks, hgv⟩ := id C.1
  have hbA : ¬ (fun q : Nat => s.heap.size ≤ q) b := Nat.not_le.mpr hbl
  have hL := C.2.1
  obtain ⟨v, τC, τM, h1, h2, hI2⟩ := hSp σC σM  hI
  refine lv_aload_n hx hb dL_law_1187 rfl (lv_at hl 1 rfl) ?_
  refine lw_cC (vs := []) (rest := []) (τC := τC) (v := v) C (w_X11_write h1) mi_X11_write mv_X11_write ml_L_165 dL_law_1188 rfl rfl ⟨Nat.le_of_ble_eq_true rfl, Nat.le_of_ble_eq_true rfl⟩ (Nat.le_of_ble_eq_true rfl) ⟨by omega, by omega⟩ rfl hH hS hl.1 (fun H locs hH hS => ?_)
  refine lv_aload_n hx hb dL_law_1191 rfl (lv_at hl 2 rfl) ?_
  refine lw_cM (vs := []) (rest := [.int v]) (τM := τM) (v := v) C (w_X12_write h2) mi_X12_write mv_X12_write ml_L_168 dL_law_1192 rfl rfl ⟨Nat.le_of_ble_eq_true rfl, Nat.le_of_ble_eq_true rfl⟩ (Nat.le_of_ble_eq_true rfl) ⟨by omega, by omega⟩ rfl hH hS hl.1 (fun H locs hH hS => ?_)
  refine lv_icmp_eq (tgt := 1643) hx hb dL_law_1195 (by decide) (fun _ => ?_) (fun q => absurd rfl q)
  refine W.widen (k := cells + 1) (n := slots + 6) (by omega) (by omega) ?_
  exact kend _ _ _ _ _ _ hI2 hH hS hl
set_option maxRecDepth 100000 in
set_option maxHeartbeats 4000000 in
theorem lc_octet (hSp : Sp_octet Inv) (C : LC p l s m meth c b L xs GC GM) {i : Nat} {x4 : Int32} (ex : x4 = nI i) (hi : i + 6 ≤ L) (hc : cells + 1 ≤ 601024 ∧ slots + 6 ≤ 7293034) (hI : Inv σC σM) (hH : LH GC GM σC σM f H) (hS : va_S (fun q => s.heap.size ≤ q) s.heap H locs) (hl : lv_has ls 7 (lwL b s.heap.size x4))
    (kend : ∀ (σC σM : Sto) (f : Nat → Int64) (H : Heap) (locs : List Loc) (ls : Array Slot), Inv σC σM → LH GC GM σC σM f H → va_S (fun q => s.heap.size ≤ q) s.heap H locs → lv_has ls 7 (lwL b s.heap.size x4) → W p l e room_1 s m #[Value.ref b] below meth c H locs (cells + 1) (slots + 6) Q (F0 m 1643 ls [])) : W p l e room_1 s m #[Value.ref b] below meth c H locs cells slots Q (F0 m 1200 ls []) := by
  obtain ⟨hx, hb, hr, hml, hown, hts, hX, hbl, hlocks, hgv⟩ := id C.1
  have hbA : ¬ (fun q : Nat => s.heap.size ≤ q) b := Nat.not_le.mpr hbl
  have hL := C.2.1
  obtain ⟨r, z, w, h1, h2, h3, hcs, hI2⟩ := hSp σC σM (xs (x4 + 1).toNatClampNeg) hI
  refine lv_aload_n hx hb dL_law_1200 rfl (lv_at hl 1 rfl) ?_
  refine lv_aload_n hx hb dL_law_1201 rfl (lv_at hl 0 rfl) ?_
  refine lv_iload hx hb dL_law_1202 (lv_at hl 4 rfl) ?_
  refine lv_iconst (v := 1) hx hb dL_law_1204 (by decide) ?_
  refine lv_iadd hx hb dL_law_1205 ?_
  refine va_sld hx hb hX hbl hbA hS (vp_x ex hi hL (k := 1) (by decide) (by decide)) dL_law_1206 ?_
  refine lv_aload_n hx hb dL_law_1207 rfl (lv_at hl 3 rfl) ?_
  refine lw_cO (vs := [.int (xs (x4 + 1).toNatClampNeg)]) (n := 3) C (by have := w_L_octet (G := GC) (bO := GM.2.2.1.2) (f := f) C.2.2.1 h1; exact this) ⟨cw_L_octet, ms_L_octet, rfl, by decide +kernel, by decide +kernel, by decide +kernel⟩ ml_L_169 dL_law_1208 rfl (by decide) ⟨hc.1, hc.2⟩ rfl hH hS hl.1 (fun k9 f9 H locs hk9 hH hS => ?_)
  refine lv_istore (lv' := [(5, .int k9), (0, .ref b), (1, .ref s.heap.size), (2, .ref (s.heap.size + 134)), (3, .ref (s.heap.size + 153)), (4, .int x4)]) hx hb dL_law_1211 hl (by decide) rfl (fun ls hl => ?_)
  refine lv_aload_n hx hb dL_law_1213 rfl (lv_at hl 3 rfl) ?_
  refine lv_aload_n hx hb dL_law_1214 rfl (lv_at hl 1 rfl) ?_
  refine lv_iload hx hb dL_law_1215 (lv_at hl 5 rfl) ?_
  refine lv_iconst (v := 1) hx hb dL_law_1217 (by decide) ?_
  refine lv_iadd hx hb dL_law_1218 ?_
  refine va_sld hx hb hX hbl hbA hS (vp_x ex hi hL (k := 1) (by decide) (by decide)) dL_law_1219 ?_
  refine lw_cM (vs := [.int (xs (x4 + 1).toNatClampNeg)]) (rest := []) (τM := z.2) (v := z.1) C (w_X12_octet h2) mi_X12_octet mv_X12_octet ml_L_174 dL_law_1220 rfl rfl ⟨Nat.le_of_ble_eq_true rfl, Nat.le_of_ble_eq_true rfl⟩ (Nat.le_of_ble_eq_true rfl) ⟨by omega, by omega⟩ rfl hH hS hl.1 (fun H locs hH hS => ?_)
  refine lv_istore (lv' := [(6, .int z.1), (5, .int k9), (0, .ref b), (1, .ref s.heap.size), (2, .ref (s.heap.size + 134)), (3, .ref (s.heap.size + 153)), (4, .int x4)]) hx hb dL_law_1223 hl (by decide) rfl (fun ls hl => ?_)
  refine lv_aload_n hx hb dL_law_1225 rfl (lv_at hl 4 rfl) ?_
  refine lw_cM (vs := []) (rest := []) (τM := z.2) (v := w) C (w_X12_thrown h3) mi_X12_thrown mv_X12_thrown ml_L_175 dL_law_1226 rfl rfl ⟨Nat.le_of_ble_eq_true rfl, Nat.le_of_ble_eq_true rfl⟩ (Nat.le_of_ble_eq_true rfl) ⟨by omega, by omega⟩ rfl hH hS hl.1 (fun H locs hH hS => ?_)
  refine lv_iload hx hb dL_law_1229 (lv_at hl 1 rfl) ?_
  have hwk : w = k9 := by rcases hcs with ⟨a1, a2⟩ | ⟨a1, a2⟩ <;> rcases hk9 with ⟨b1, b2, -⟩ | ⟨v9, b1, b2, -⟩ <;> first | (rw [a2, b2]; done) | (rw [a1] at b1; cases b1)
  refine lv_icmp_eq (tgt := 1236) hx hb dL_law_1231 (by decide) (fun _ => ?_) (fun q => absurd hwk q)
  refine lv_iload hx hb dL_law_1236 (lv_at hl 1 rfl) ?_
  refine lv_if_ne (tgt := 1253) hx hb dL_law_1238 (by decide) (fun q => ?_) (fun q => ?_)
  · refine lv_goto (tgt := 1643) hx hb dL_law_1253 (by decide) ?_
    exact kend _ _ _ _ _ _ hI2 hH hS (lv_sub hl [2, 3, 4, 5, 6] rfl)
  · refine lv_aload_n hx hb dL_law_1241 rfl (lv_at hl 5 rfl) ?_
    refine lv_iconst (v := 0) hx hb dL_law_1242 (by decide) ?_
    have hbO : GM.2.2.1.2 = s.heap.size + 153 := by rw [C.bM]
    have hO9 := hH.2.2
    rw [hbO] at hO9
    refine va_lald hx hb C.K hO9 0 1 (cA := GC.2.1 1) (n := 1) (f := f9) rfl rfl (show ib 0 1 from by decide) dL_law_1243 ?_
    refine lv_iload hx hb dL_law_1244 (lv_at hl 0 rfl) ?_
    refine lv_i2l hx hb dL_law_1246 rfl ?_
    refine W.lcmp hx hb dL_law_1247 ?_
    have hfz : f9 (Int32.toNatClampNeg 0) = z.1.toInt64 := by
      have e0 : Int32.toNatClampNeg 0 = 0 := by decide
      rw [e0]
      rcases hk9 with ⟨b1, b2, -⟩ | ⟨v9, b1, b2, b3⟩
      · exact absurd q (by rw [b2]; decide)
      · rcases hcs with ⟨a1, a2⟩ | ⟨a1, a2⟩
        · rw [a1] at b1; cases b1
        · rw [a1] at b1; cases b1; exact b3
    refine lv_if_eq (tgt := 1253) hx hb dL_law_1248 (by decide) (fun _ => ?_) (fun q2 => absurd (by rw [hfz]; simp [lg_cmp]) q2)
    refine lv_goto (tgt := 1643) hx hb dL_law_1253 (by decide) ?_
    exact kend _ _ _ _ _ _ hI2 hH hS (lv_sub hl [2, 3, 4, 5, 6] rfl)
set_option maxRecDepth 100000 in
set_option maxHeartbeats 4000000 in
theorem lc_price (hSp : Sp_price Inv) (C : LC p l s m meth c b L xs GC GM) {i : Nat} {x4 : Int32} (ex : x4 = nI i) (hi : i + 6 ≤ L) (hc : cells + 1 ≤ 601024 ∧ slots + 6 ≤ 7293034) (hI : Inv σC σM) (hH : LH GC GM σC σM f H) (hS : va_S (fun q => s.heap.size ≤ q) s.heap H locs) (hl : lv_has ls 7 (lwL b s.heap.size x4))
    (kend : ∀ (σC σM : Sto) (f : Nat → Int64) (H : Heap) (locs : List Loc) (ls : Array Slot), Inv σC σM → LH GC GM σC σM f H → va_S (fun q => s.heap.size ≤ q) s.heap H locs → lv_has ls 7 (lwL b s.heap.size x4) → W p l e room_1 s m #[Value.ref b] below meth c H locs (cells + 1) (slots + 6) Q (F0 m 1643 ls [])) : W p l e room_1 s m #[Value.ref b] below meth c H locs cells slots Q (F0 m 1256 ls []) := by
  obtain ⟨hx, hb, hr, hml, hown, hts, hX, hbl, hlocks, hgv⟩ := id C.1
  have hbA : ¬ (fun q : Nat => s.heap.size ≤ q) b := Nat.not_le.mpr hbl
  have hL := C.2.1
  obtain ⟨v, τC, τM, h1, h2, hI2⟩ := hSp σC σM (xs (x4 + 1).toNatClampNeg) (xs (x4 + 2).toNatClampNeg) hI
  refine lv_aload_n hx hb dL_law_1256 rfl (lv_at hl 1 rfl) ?_
  refine lv_aload_n hx hb dL_law_1257 rfl (lv_at hl 0 rfl) ?_
  refine lv_iload hx hb dL_law_1258 (lv_at hl 4 rfl) ?_
  refine lv_iconst (v := 1) hx hb dL_law_1260 (by decide) ?_
  refine lv_iadd hx hb dL_law_1261 ?_
  refine va_sld hx hb hX hbl hbA hS (vp_x ex hi hL (k := 1) (by decide) (by decide)) dL_law_1262 ?_
  refine lv_aload_n hx hb dL_law_1263 rfl (lv_at hl 0 rfl) ?_
  refine lv_iload hx hb dL_law_1264 (lv_at hl 4 rfl) ?_
  refine lv_iconst (v := 2) hx hb dL_law_1266 (by decide) ?_
  refine lv_iadd hx hb dL_law_1267 ?_
  refine va_sld hx hb hX hbl hbA hS (vp_x ex hi hL (k := 2) (by decide) (by decide)) dL_law_1268 ?_
  refine lw_cC (vs := [.int (xs (x4 + 1).toNatClampNeg), .int (xs (x4 + 2).toNatClampNeg)]) (rest := []) (τC := τC) (v := v) C (w_X11_price h1) mi_X11_price mv_X11_price ml_L_178 dL_law_1269 rfl rfl ⟨Nat.le_of_ble_eq_true rfl, Nat.le_of_ble_eq_true rfl⟩ (Nat.le_of_ble_eq_true rfl) ⟨by omega, by omega⟩ rfl hH hS hl.1 (fun H locs hH hS => ?_)
  refine lv_aload_n hx hb dL_law_1272 rfl (lv_at hl 2 rfl) ?_
  refine lv_aload_n hx hb dL_law_1273 rfl (lv_at hl 0 rfl) ?_
  refine lv_iload hx hb dL_law_1274 (lv_at hl 4 rfl) ?_
  refine lv_iconst (v := 1) hx hb dL_law_1276 (by decide) ?_
  refine lv_iadd hx hb dL_law_1277 ?_
  refine va_sld hx hb hX hbl hbA hS (vp_x ex hi hL (k := 1) (by decide) (by decide)) dL_law_1278 ?_
  refine lv_aload_n hx hb dL_law_1279 rfl (lv_at hl 0 rfl) ?_
  refine lv_iload hx hb dL_law_1280 (lv_at hl 4 rfl) ?_
  refine lv_iconst (v := 2) hx hb dL_law_1282 (by decide) ?_
  refine lv_iadd hx hb dL_law_1283 ?_
  refine va_sld hx hb hX hbl hbA hS (vp_x ex hi hL (k := 2) (by decide) (by decide)) dL_law_1284 ?_
  refine lw_cM (vs := [.int (xs (x4 + 1).toNatClampNeg), .int (xs (x4 + 2).toNatClampNeg)]) (rest := [.int v]) (τM := τM) (v := v) C (w_X12_price h2) mi_X12_price mv_X12_price ml_L_181 dL_law_1285 rfl rfl ⟨Nat.le_of_ble_eq_true rfl, Nat.le_of_ble_eq_true rfl⟩ (Nat.le_of_ble_eq_true rfl) ⟨by omega, by omega⟩ rfl hH hS hl.1 (fun H locs hH hS => ?_)
  refine lv_icmp_eq (tgt := 1643) hx hb dL_law_1288 (by decide) (fun _ => ?_) (fun q => absurd rfl q)
  refine W.widen (k := cells + 1) (n := slots + 6) (by omega) (by omega) ?_
  exact kend _ _ _ _ _ _ hI2 hH hS hl
set_option maxRecDepth 100000 in
set_option maxHeartbeats 4000000 in
theorem lc_lay (hSp : Sp_lay Inv) (C : LC p l s m meth c b L xs GC GM) {i : Nat} {x4 : Int32} (ex : x4 = nI i) (hi : i + 6 ≤ L) (hc : cells + 1 ≤ 601024 ∧ slots + 6 ≤ 7293034) (hI : Inv σC σM) (hH : LH GC GM σC σM f H) (hS : va_S (fun q => s.heap.size ≤ q) s.heap H locs) (hl : lv_has ls 7 (lwL b s.heap.size x4))
    (kend : ∀ (σC σM : Sto) (f : Nat → Int64) (H : Heap) (locs : List Loc) (ls : Array Slot), Inv σC σM → LH GC GM σC σM f H → va_S (fun q => s.heap.size ≤ q) s.heap H locs → lv_has ls 7 (lwL b s.heap.size x4) → W p l e room_1 s m #[Value.ref b] below meth c H locs (cells + 1) (slots + 6) Q (F0 m 1643 ls [])) : W p l e room_1 s m #[Value.ref b] below meth c H locs cells slots Q (F0 m 1293 ls []) := by
  obtain ⟨hx, hb, hr, hml, hown, hts, hX, hbl, hlocks, hgv⟩ := id C.1
  have hbA : ¬ (fun q : Nat => s.heap.size ≤ q) b := Nat.not_le.mpr hbl
  have hL := C.2.1
  obtain ⟨w, hw⟩ : ∃ w : Int32, w = if (xs (x4 + 1).toNatClampNeg) = 0 then 0 else 1 := ⟨_, rfl⟩
  have hw01 : w = 0 ∨ w = 1 := by rw [hw]; split <;> simp
  obtain ⟨v, τC, τM, h1, h2, hI2⟩ := hSp σC σM w hw01 hI
  refine lv_aload_n hx hb dL_law_1293 rfl (lv_at hl 1 rfl) ?_
  refine lv_aload_n hx hb dL_law_1294 rfl (lv_at hl 0 rfl) ?_
  refine lv_iload hx hb dL_law_1295 (lv_at hl 4 rfl) ?_
  refine lv_iconst (v := 1) hx hb dL_law_1297 (by decide) ?_
  refine lv_iadd hx hb dL_law_1298 ?_
  refine va_sld hx hb hX hbl hbA hS (vp_x ex hi hL (k := 1) (by decide) (by decide)) dL_law_1299 ?_
  have kb1308 : ∀ (u : Int32), u = w → W p l e room_1 s m #[Value.ref b] below meth c H locs cells slots Q (F0 m 1308 ls (.int u :: .ref s.heap.size :: [])) → W p l e room_1 s m #[Value.ref b] below meth c H locs cells slots Q (F0 m 1308 ls (.int u :: .ref s.heap.size :: [])) := fun _ _ k => k
  have kj1308 : W p l e room_1 s m #[Value.ref b] below meth c H locs cells slots Q (F0 m 1308 ls (.int w :: .ref s.heap.size :: [])) → W p l e room_1 s m #[Value.ref b] below meth c H locs cells slots Q (F0 m 1300 ls (.int (xs (x4 + 1).toNatClampNeg) :: .ref s.heap.size :: [])) := by
    intro kk
    refine lv_if_eq (tgt := 1307) hx hb dL_law_1300 (by decide) (fun q => ?_) (fun q => ?_)
    · refine lv_iconst (v := 0) hx hb dL_law_1307 (by decide) ?_
      rw [hw, if_pos q] at kk
      exact kk
    · refine lv_iconst (v := 1) hx hb dL_law_1303 (by decide) ?_
      refine lv_goto (tgt := 1308) hx hb dL_law_1304 (by decide) ?_
      rw [hw, if_neg q] at kk
      exact kk
  refine kj1308 ?_
  refine lw_cC (vs := [.int w]) (rest := []) (τC := τC) (v := v) C (w_X11_lay h1) mi_X11_lay mv_X11_lay ml_L_182 dL_law_1308 rfl rfl ⟨Nat.le_of_ble_eq_true rfl, Nat.le_of_ble_eq_true rfl⟩ (Nat.le_of_ble_eq_true rfl) ⟨by omega, by omega⟩ rfl hH hS hl.1 (fun H locs hH hS => ?_)
  refine lv_aload_n hx hb dL_law_1311 rfl (lv_at hl 2 rfl) ?_
  refine lv_aload_n hx hb dL_law_1312 rfl (lv_at hl 0 rfl) ?_
  refine lv_iload hx hb dL_law_1313 (lv_at hl 4 rfl) ?_
  refine lv_iconst (v := 1) hx hb dL_law_1315 (by decide) ?_
  refine lv_iadd hx hb dL_law_1316 ?_
  refine va_sld hx hb hX hbl hbA hS (vp_x ex hi hL (k := 1) (by decide) (by decide)) dL_law_1317 ?_
  have kb1326 : ∀ (u : Int32), u = w → W p l e room_1 s m #[Value.ref b] below meth c H locs cells slots Q (F0 m 1326 ls (.int u :: .ref (s.heap.size + 134) :: [.int v])) → W p l e room_1 s m #[Value.ref b] below meth c H locs cells slots Q (F0 m 1326 ls (.int u :: .ref (s.heap.size + 134) :: [.int v])) := fun _ _ k => k
  have kj1326 : W p l e room_1 s m #[Value.ref b] below meth c H locs cells slots Q (F0 m 1326 ls (.int w :: .ref (s.heap.size + 134) :: [.int v])) → W p l e room_1 s m #[Value.ref b] below meth c H locs cells slots Q (F0 m 1318 ls (.int (xs (x4 + 1).toNatClampNeg) :: .ref (s.heap.size + 134) :: [.int v])) := by
    intro kk
    refine lv_if_eq (tgt := 1325) hx hb dL_law_1318 (by decide) (fun q => ?_) (fun q => ?_)
    · refine lv_iconst (v := 0) hx hb dL_law_1325 (by decide) ?_
      rw [hw, if_pos q] at kk
      exact kk
    · refine lv_iconst (v := 1) hx hb dL_law_1321 (by decide) ?_
      refine lv_goto (tgt := 1326) hx hb dL_law_1322 (by decide) ?_
      rw [hw, if_neg q] at kk
      exact kk
  refine kj1326 ?_
  refine lw_cM (vs := [.int w]) (rest := [.int v]) (τM := τM) (v := v) C (w_X12_lay h2) mi_X12_lay mv_X12_lay ml_L_186 dL_law_1326 rfl rfl ⟨Nat.le_of_ble_eq_true rfl, Nat.le_of_ble_eq_true rfl⟩ (Nat.le_of_ble_eq_true rfl) ⟨by omega, by omega⟩ rfl hH hS hl.1 (fun H locs hH hS => ?_)
  refine lv_icmp_eq (tgt := 1643) hx hb dL_law_1329 (by decide) (fun _ => ?_) (fun q => absurd rfl q)
  refine W.widen (k := cells + 1) (n := slots + 6) (by omega) (by omega) ?_
  exact kend _ _ _ _ _ _ hI2 hH hS hl
set_option maxRecDepth 100000 in
set_option maxHeartbeats 4000000 in
theorem lc_quality (hSp : Sp_quality Inv) (C : LC p l s m meth c b L xs GC GM) {i : Nat} {x4 : Int32} (ex : x4 = nI i) (hi : i + 6 ≤ L) (hc : cells + 1 ≤ 601024 ∧ slots + 6 ≤ 7293034) (hI : Inv σC σM) (hH : LH GC GM σC σM f H) (hS : va_S (fun q => s.heap.size ≤ q) s.heap H locs) (hl : lv_has ls 7 (lwL b s.heap.size x4))
    (kend : ∀ (σC σM : Sto) (f : Nat → Int64) (H : Heap) (locs : List Loc) (ls : Array Slot), Inv σC σM → LH GC GM σC σM f H → va_S (fun q => s.heap.size ≤ q) s.heap H locs → lv_has ls 7 (lwL b s.heap.size x4) → W p l e room_1 s m #[Value.ref b] below meth c H locs (cells + 1) (slots + 6) Q (F0 m 1643 ls [])) : W p l e room_1 s m #[Value.ref b] below meth c H locs cells slots Q (F0 m 1334 ls []) := by
  obtain ⟨hx, hb, hr, hml, hown, hts, hX, hbl, hlocks, hgv⟩ := id C.1
  have hbA : ¬ (fun q : Nat => s.heap.size ≤ q) b := Nat.not_le.mpr hbl
  have hL := C.2.1
  obtain ⟨v, τC, τM, h1, h2, hI2⟩ := hSp σC σM (xs (x4 + 1).toNatClampNeg) (xs (x4 + 2).toNatClampNeg) hI
  refine lv_aload_n hx hb dL_law_1334 rfl (lv_at hl 1 rfl) ?_
  refine lv_aload_n hx hb dL_law_1335 rfl (lv_at hl 0 rfl) ?_
  refine lv_iload hx hb dL_law_1336 (lv_at hl 4 rfl) ?_
  refine lv_iconst (v := 1) hx hb dL_law_1338 (by decide) ?_
  refine lv_iadd hx hb dL_law_1339 ?_
  refine va_sld hx hb hX hbl hbA hS (vp_x ex hi hL (k := 1) (by decide) (by decide)) dL_law_1340 ?_
  refine lv_aload_n hx hb dL_law_1341 rfl (lv_at hl 0 rfl) ?_
  refine lv_iload hx hb dL_law_1342 (lv_at hl 4 rfl) ?_
  refine lv_iconst (v := 2) hx hb dL_law_1344 (by decide) ?_
  refine lv_iadd hx hb dL_law_1345 ?_
  refine va_sld hx hb hX hbl hbA hS (vp_x ex hi hL (k := 2) (by decide) (by decide)) dL_law_1346 ?_
  refine lw_cC (vs := [.int (xs (x4 + 1).toNatClampNeg), .int (xs (x4 + 2).toNatClampNeg)]) (rest := []) (τC := τC) (v := v) C (w_X11_quality h1) mi_X11_quality mv_X11_quality ml_L_187 dL_law_1347 rfl rfl ⟨Nat.le_of_ble_eq_true rfl, Nat.le_of_ble_eq_true rfl⟩ (Nat.le_of_ble_eq_true rfl) ⟨by omega, by omega⟩ rfl hH hS hl.1 (fun H locs hH hS => ?_)
  refine lv_aload_n hx hb dL_law_1350 rfl (lv_at hl 2 rfl) ?_
  refine lv_aload_n hx hb dL_law_1351 rfl (lv_at hl 0 rfl) ?_
  refine lv_iload hx hb dL_law_1352 (lv_at hl 4 rfl) ?_
  refine lv_iconst (v := 1) hx hb dL_law_1354 (by decide) ?_
  refine lv_iadd hx hb dL_law_1355 ?_
  refine va_sld hx hb hX hbl hbA hS (vp_x ex hi hL (k := 1) (by decide) (by decide)) dL_law_1356 ?_
  refine lv_aload_n hx hb dL_law_1357 rfl (lv_at hl 0 rfl) ?_
  refine lv_iload hx hb dL_law_1358 (lv_at hl 4 rfl) ?_
  refine lv_iconst (v := 2) hx hb dL_law_1360 (by decide) ?_
  refine lv_iadd hx hb dL_law_1361 ?_
  refine va_sld hx hb hX hbl hbA hS (vp_x ex hi hL (k := 2) (by decide) (by decide)) dL_law_1362 ?_
  refine lw_cM (vs := [.int (xs (x4 + 1).toNatClampNeg), .int (xs (x4 + 2).toNatClampNeg)]) (rest := [.int v]) (τM := τM) (v := v) C (w_X12_quality h2) mi_X12_quality mv_X12_quality ml_L_190 dL_law_1363 rfl rfl ⟨Nat.le_of_ble_eq_true rfl, Nat.le_of_ble_eq_true rfl⟩ (Nat.le_of_ble_eq_true rfl) ⟨by omega, by omega⟩ rfl hH hS hl.1 (fun H locs hH hS => ?_)
  refine lv_icmp_eq (tgt := 1643) hx hb dL_law_1366 (by decide) (fun _ => ?_) (fun q => absurd rfl q)
  refine W.widen (k := cells + 1) (n := slots + 6) (by omega) (by omega) ?_
  exact kend _ _ _ _ _ _ hI2 hH hS hl
set_option maxRecDepth 100000 in
set_option maxHeartbeats 4000000 in
theorem lc_become (hSp : Sp_become Inv) (C : LC p l s m meth c b L xs GC GM) {i : Nat} {x4 : Int32} (ex : x4 = nI i) (hi : i + 6 ≤ L) (hc : cells + 1 ≤ 601024 ∧ slots + 6 ≤ 7293034) (hI : Inv σC σM) (hH : LH GC GM σC σM f H) (hS : va_S (fun q => s.heap.size ≤ q) s.heap H locs) (hl : lv_has ls 7 (lwL b s.heap.size x4))
    (kend : ∀ (σC σM : Sto) (f : Nat → Int64) (H : Heap) (locs : List Loc) (ls : Array Slot), Inv σC σM → LH GC GM σC σM f H → va_S (fun q => s.heap.size ≤ q) s.heap H locs → lv_has ls 7 (lwL b s.heap.size x4) → W p l e room_1 s m #[Value.ref b] below meth c H locs (cells + 1) (slots + 6) Q (F0 m 1643 ls [])) : W p l e room_1 s m #[Value.ref b] below meth c H locs cells slots Q (F0 m 1371 ls []) := by
  obtain ⟨hx, hb, hr, hml, hown, hts, hX, hbl, hlocks, hgv⟩ := id C.1
  have hbA : ¬ (fun q : Nat => s.heap.size ≤ q) b := Nat.not_le.mpr hbl
  have hL := C.2.1
  obtain ⟨v, τC, τM, h1, h2, hI2⟩ := hSp σC σM (xs (x4 + 1).toNatClampNeg) (xs (x4 + 2).toNatClampNeg) hI
  refine lv_aload_n hx hb dL_law_1371 rfl (lv_at hl 1 rfl) ?_
  refine lv_aload_n hx hb dL_law_1372 rfl (lv_at hl 0 rfl) ?_
  refine lv_iload hx hb dL_law_1373 (lv_at hl 4 rfl) ?_
  refine lv_iconst (v := 1) hx hb dL_law_1375 (by decide) ?_
  refine lv_iadd hx hb dL_law_1376 ?_
  refine va_sld hx hb hX hbl hbA hS (vp_x ex hi hL (k := 1) (by decide) (by decide)) dL_law_1377 ?_
  refine lv_aload_n hx hb dL_law_1378 rfl (lv_at hl 0 rfl) ?_
  refine lv_iload hx hb dL_law_1379 (lv_at hl 4 rfl) ?_
  refine lv_iconst (v := 2) hx hb dL_law_1381 (by decide) ?_
  refine lv_iadd hx hb dL_law_1382 ?_
  refine va_sld hx hb hX hbl hbA hS (vp_x ex hi hL (k := 2) (by decide) (by decide)) dL_law_1383 ?_
  refine lw_cC (vs := [.int (xs (x4 + 1).toNatClampNeg), .int (xs (x4 + 2).toNatClampNeg)]) (rest := []) (τC := τC) (v := v) C (w_X11_become h1) mi_X11_become mv_X11_become ml_L_191 dL_law_1384 rfl rfl ⟨Nat.le_of_ble_eq_true rfl, Nat.le_of_ble_eq_true rfl⟩ (Nat.le_of_ble_eq_true rfl) ⟨by omega, by omega⟩ rfl hH hS hl.1 (fun H locs hH hS => ?_)
  refine lv_aload_n hx hb dL_law_1387 rfl (lv_at hl 2 rfl) ?_
  refine lv_aload_n hx hb dL_law_1388 rfl (lv_at hl 0 rfl) ?_
  refine lv_iload hx hb dL_law_1389 (lv_at hl 4 rfl) ?_
  refine lv_iconst (v := 1) hx hb dL_law_1391 (by decide) ?_
  refine lv_iadd hx hb dL_law_1392 ?_
  refine va_sld hx hb hX hbl hbA hS (vp_x ex hi hL (k := 1) (by decide) (by decide)) dL_law_1393 ?_
  refine lv_aload_n hx hb dL_law_1394 rfl (lv_at hl 0 rfl) ?_
  refine lv_iload hx hb dL_law_1395 (lv_at hl 4 rfl) ?_
  refine lv_iconst (v := 2) hx hb dL_law_1397 (by decide) ?_
  refine lv_iadd hx hb dL_law_1398 ?_
  refine va_sld hx hb hX hbl hbA hS (vp_x ex hi hL (k := 2) (by decide) (by decide)) dL_law_1399 ?_
  refine lw_cM (vs := [.int (xs (x4 + 1).toNatClampNeg), .int (xs (x4 + 2).toNatClampNeg)]) (rest := [.int v]) (τM := τM) (v := v) C (w_X12_become h2) mi_X12_become mv_X12_become ml_L_194 dL_law_1400 rfl rfl ⟨Nat.le_of_ble_eq_true rfl, Nat.le_of_ble_eq_true rfl⟩ (Nat.le_of_ble_eq_true rfl) ⟨by omega, by omega⟩ rfl hH hS hl.1 (fun H locs hH hS => ?_)
  refine lv_icmp_eq (tgt := 1643) hx hb dL_law_1403 (by decide) (fun _ => ?_) (fun q => absurd rfl q)
  refine W.widen (k := cells + 1) (n := slots + 6) (by omega) (by omega) ?_
  exact kend _ _ _ _ _ _ hI2 hH hS hl
set_option maxRecDepth 100000 in
set_option maxHeartbeats 4000000 in
theorem lc_year (hSp : Sp_year Inv) (C : LC p l s m meth c b L xs GC GM) {i : Nat} {x4 : Int32} (ex : x4 = nI i) (hi : i + 6 ≤ L) (hc : cells + 1 ≤ 601024 ∧ slots + 6 ≤ 7293034) (hI : Inv σC σM) (hH : LH GC GM σC σM f H) (hS : va_S (fun q => s.heap.size ≤ q) s.heap H locs) (hl : lv_has ls 7 (lwL b s.heap.size x4))
    (kend : ∀ (σC σM : Sto) (f : Nat → Int64) (H : Heap) (locs : List Loc) (ls : Array Slot), Inv σC σM → LH GC GM σC σM f H → va_S (fun q => s.heap.size ≤ q) s.heap H locs → lv_has ls 7 (lwL b s.heap.size x4) → W p l e room_1 s m #[Value.ref b] below meth c H locs (cells + 1) (slots + 6) Q (F0 m 1643 ls [])) : W p l e room_1 s m #[Value.ref b] below meth c H locs cells slots Q (F0 m 1408 ls []) := by
  obtain ⟨hx, hb, hr, hml, hown, hts, hX, hbl, hlocks, hgv⟩ := id C.1
  have hbA : ¬ (fun q : Nat => s.heap.size ≤ q) b := Nat.not_le.mpr hbl
  have hL := C.2.1
  obtain ⟨w, hw⟩ : ∃ w : Int32, w = if (xs (x4 + 1).toNatClampNeg) = 0 then 0 else 1 := ⟨_, rfl⟩
  have hw01 : w = 0 ∨ w = 1 := by rw [hw]; split <;> simp
  obtain ⟨v, τC, τM, h1, h2, hI2⟩ := hSp σC σM w hw01 hI
  refine lv_aload_n hx hb dL_law_1408 rfl (lv_at hl 1 rfl) ?_
  refine lv_aload_n hx hb dL_law_1409 rfl (lv_at hl 0 rfl) ?_
  refine lv_iload hx hb dL_law_1410 (lv_at hl 4 rfl) ?_
  refine lv_iconst (v := 1) hx hb dL_law_1412 (by decide) ?_
  refine lv_iadd hx hb dL_law_1413 ?_
  refine va_sld hx hb hX hbl hbA hS (vp_x ex hi hL (k := 1) (by decide) (by decide)) dL_law_1414 ?_
  have kb1423 : ∀ (u : Int32), u = w → W p l e room_1 s m #[Value.ref b] below meth c H locs cells slots Q (F0 m 1423 ls (.int u :: .ref s.heap.size :: [])) → W p l e room_1 s m #[Value.ref b] below meth c H locs cells slots Q (F0 m 1423 ls (.int u :: .ref s.heap.size :: [])) := fun _ _ k => k
  have kj1423 : W p l e room_1 s m #[Value.ref b] below meth c H locs cells slots Q (F0 m 1423 ls (.int w :: .ref s.heap.size :: [])) → W p l e room_1 s m #[Value.ref b] below meth c H locs cells slots Q (F0 m 1415 ls (.int (xs (x4 + 1).toNatClampNeg) :: .ref s.heap.size :: [])) := by
    intro kk
    refine lv_if_eq (tgt := 1422) hx hb dL_law_1415 (by decide) (fun q => ?_) (fun q => ?_)
    · refine lv_iconst (v := 0) hx hb dL_law_1422 (by decide) ?_
      rw [hw, if_pos q] at kk
      exact kk
    · refine lv_iconst (v := 1) hx hb dL_law_1418 (by decide) ?_
      refine lv_goto (tgt := 1423) hx hb dL_law_1419 (by decide) ?_
      rw [hw, if_neg q] at kk
      exact kk
  refine kj1423 ?_
  refine lw_cC (vs := [.int w]) (rest := []) (τC := τC) (v := v) C (w_X11_year h1) mi_X11_year mv_X11_year ml_L_195 dL_law_1423 rfl rfl ⟨Nat.le_of_ble_eq_true rfl, Nat.le_of_ble_eq_true rfl⟩ (Nat.le_of_ble_eq_true rfl) ⟨by omega, by omega⟩ rfl hH hS hl.1 (fun H locs hH hS => ?_)
  refine lv_aload_n hx hb dL_law_1426 rfl (lv_at hl 2 rfl) ?_
  refine lv_aload_n hx hb dL_law_1427 rfl (lv_at hl 0 rfl) ?_
  refine lv_iload hx hb dL_law_1428 (lv_at hl 4 rfl) ?_
  refine lv_iconst (v := 1) hx hb dL_law_1430 (by decide) ?_
  refine lv_iadd hx hb dL_law_1431 ?_
  refine va_sld hx hb hX hbl hbA hS (vp_x ex hi hL (k := 1) (by decide) (by decide)) dL_law_1432 ?_
  have kb1441 : ∀ (u : Int32), u = w → W p l e room_1 s m #[Value.ref b] below meth c H locs cells slots Q (F0 m 1441 ls (.int u :: .ref (s.heap.size + 134) :: [.int v])) → W p l e room_1 s m #[Value.ref b] below meth c H locs cells slots Q (F0 m 1441 ls (.int u :: .ref (s.heap.size + 134) :: [.int v])) := fun _ _ k => k
  have kj1441 : W p l e room_1 s m #[Value.ref b] below meth c H locs cells slots Q (F0 m 1441 ls (.int w :: .ref (s.heap.size + 134) :: [.int v])) → W p l e room_1 s m #[Value.ref b] below meth c H locs cells slots Q (F0 m 1433 ls (.int (xs (x4 + 1).toNatClampNeg) :: .ref (s.heap.size + 134) :: [.int v])) := by
    intro kk
    refine lv_if_eq (tgt := 1440) hx hb dL_law_1433 (by decide) (fun q => ?_) (fun q => ?_)
    · refine lv_iconst (v := 0) hx hb dL_law_1440 (by decide) ?_
      rw [hw, if_pos q] at kk
      exact kk
    · refine lv_iconst (v := 1) hx hb dL_law_1436 (by decide) ?_
      refine lv_goto (tgt := 1441) hx hb dL_law_1437 (by decide) ?_
      rw [hw, if_neg q] at kk
      exact kk
  refine kj1441 ?_
  refine lw_cM (vs := [.int w]) (rest := [.int v]) (τM := τM) (v := v) C (w_X12_year h2) mi_X12_year mv_X12_year ml_L_198 dL_law_1441 rfl rfl ⟨Nat.le_of_ble_eq_true rfl, Nat.le_of_ble_eq_true rfl⟩ (Nat.le_of_ble_eq_true rfl) ⟨by omega, by omega⟩ rfl hH hS hl.1 (fun H locs hH hS => ?_)
  refine lv_icmp_eq (tgt := 1643) hx hb dL_law_1444 (by decide) (fun _ => ?_) (fun q => absurd rfl q)
  refine W.widen (k := cells + 1) (n := slots + 6) (by omega) (by omega) ?_
  exact kend _ _ _ _ _ _ hI2 hH hS hl
set_option maxRecDepth 100000 in
set_option maxHeartbeats 4000000 in
theorem lc_undo (hSp : Sp_undo Inv) (C : LC p l s m meth c b L xs GC GM) {i : Nat} {x4 : Int32} (ex : x4 = nI i) (hi : i + 6 ≤ L) (hc : cells + 1 ≤ 601024 ∧ slots + 6 ≤ 7293034) (hI : Inv σC σM) (hH : LH GC GM σC σM f H) (hS : va_S (fun q => s.heap.size ≤ q) s.heap H locs) (hl : lv_has ls 7 (lwL b s.heap.size x4))
    (kend : ∀ (σC σM : Sto) (f : Nat → Int64) (H : Heap) (locs : List Loc) (ls : Array Slot), Inv σC σM → LH GC GM σC σM f H → va_S (fun q => s.heap.size ≤ q) s.heap H locs → lv_has ls 7 (lwL b s.heap.size x4) → W p l e room_1 s m #[Value.ref b] below meth c H locs (cells + 1) (slots + 6) Q (F0 m 1643 ls [])) : W p l e room_1 s m #[Value.ref b] below meth c H locs cells slots Q (F0 m 1449 ls []) := by
  obtain ⟨hx, hb, hr, hml, hown, hts, hX, hbl, hlocks, hgv⟩ := id C.1
  have hbA : ¬ (fun q : Nat => s.heap.size ≤ q) b := Nat.not_le.mpr hbl
  have hL := C.2.1
  obtain ⟨v, τC, τM, h1, h2, hI2⟩ := hSp σC σM  hI
  refine lv_aload_n hx hb dL_law_1449 rfl (lv_at hl 1 rfl) ?_
  refine lw_cC (vs := []) (rest := []) (τC := τC) (v := v) C (w_X11_undo h1) mi_X11_undo mv_X11_undo ml_L_199 dL_law_1450 rfl rfl ⟨Nat.le_of_ble_eq_true rfl, Nat.le_of_ble_eq_true rfl⟩ (Nat.le_of_ble_eq_true rfl) ⟨by omega, by omega⟩ rfl hH hS hl.1 (fun H locs hH hS => ?_)
  refine lv_aload_n hx hb dL_law_1453 rfl (lv_at hl 2 rfl) ?_
  refine lw_cM (vs := []) (rest := [.int v]) (τM := τM) (v := v) C (w_X12_undo h2) mi_X12_undo mv_X12_undo ml_L_202 dL_law_1454 rfl rfl ⟨Nat.le_of_ble_eq_true rfl, Nat.le_of_ble_eq_true rfl⟩ (Nat.le_of_ble_eq_true rfl) ⟨by omega, by omega⟩ rfl hH hS hl.1 (fun H locs hH hS => ?_)
  refine lv_icmp_eq (tgt := 1643) hx hb dL_law_1457 (by decide) (fun _ => ?_) (fun q => absurd rfl q)
  refine W.widen (k := cells + 1) (n := slots + 6) (by omega) (by omega) ?_
  exact kend _ _ _ _ _ _ hI2 hH hS hl
set_option maxRecDepth 100000 in
set_option maxHeartbeats 4000000 in
theorem lc_keep (hSp : Sp_keep Inv) (C : LC p l s m meth c b L xs GC GM) {i : Nat} {x4 : Int32} (ex : x4 = nI i) (hi : i + 6 ≤ L) (hc : cells + 1 ≤ 601024 ∧ slots + 6 ≤ 7293034) (hI : Inv σC σM) (hH : LH GC GM σC σM f H) (hS : va_S (fun q => s.heap.size ≤ q) s.heap H locs) (hl : lv_has ls 7 (lwL b s.heap.size x4))
    (kend : ∀ (σC σM : Sto) (f : Nat → Int64) (H : Heap) (locs : List Loc) (ls : Array Slot), Inv σC σM → LH GC GM σC σM f H → va_S (fun q => s.heap.size ≤ q) s.heap H locs → lv_has ls 7 (lwL b s.heap.size x4) → W p l e room_1 s m #[Value.ref b] below meth c H locs (cells + 1) (slots + 6) Q (F0 m 1643 ls [])) : W p l e room_1 s m #[Value.ref b] below meth c H locs cells slots Q (F0 m 1462 ls []) := by
  obtain ⟨hx, hb, hr, hml, hown, hts, hX, hbl, hlocks, hgv⟩ := id C.1
  have hbA : ¬ (fun q : Nat => s.heap.size ≤ q) b := Nat.not_le.mpr hbl
  have hL := C.2.1
  obtain ⟨v, τC, τM, h1, h2, hI2⟩ := hSp σC σM (xs (x4 + 1).toNatClampNeg) hI
  refine lv_aload_n hx hb dL_law_1462 rfl (lv_at hl 1 rfl) ?_
  refine lv_aload_n hx hb dL_law_1463 rfl (lv_at hl 0 rfl) ?_
  refine lv_iload hx hb dL_law_1464 (lv_at hl 4 rfl) ?_
  refine lv_iconst (v := 1) hx hb dL_law_1466 (by decide) ?_
  refine lv_iadd hx hb dL_law_1467 ?_
  refine va_sld hx hb hX hbl hbA hS (vp_x ex hi hL (k := 1) (by decide) (by decide)) dL_law_1468 ?_
  refine lw_cC (vs := [.int (xs (x4 + 1).toNatClampNeg)]) (rest := []) (τC := τC) (v := v) C (w_X11_keep h1) mi_X11_keep mv_X11_keep ml_L_203 dL_law_1469 rfl rfl ⟨Nat.le_of_ble_eq_true rfl, Nat.le_of_ble_eq_true rfl⟩ (Nat.le_of_ble_eq_true rfl) ⟨by omega, by omega⟩ rfl hH hS hl.1 (fun H locs hH hS => ?_)
  refine lv_aload_n hx hb dL_law_1472 rfl (lv_at hl 2 rfl) ?_
  refine lv_aload_n hx hb dL_law_1473 rfl (lv_at hl 0 rfl) ?_
  refine lv_iload hx hb dL_law_1474 (lv_at hl 4 rfl) ?_
  refine lv_iconst (v := 1) hx hb dL_law_1476 (by decide) ?_
  refine lv_iadd hx hb dL_law_1477 ?_
  refine va_sld hx hb hX hbl hbA hS (vp_x ex hi hL (k := 1) (by decide) (by decide)) dL_law_1478 ?_
  refine lw_cM (vs := [.int (xs (x4 + 1).toNatClampNeg)]) (rest := [.int v]) (τM := τM) (v := v) C (w_X12_keep h2) mi_X12_keep mv_X12_keep ml_L_207 dL_law_1479 rfl rfl ⟨Nat.le_of_ble_eq_true rfl, Nat.le_of_ble_eq_true rfl⟩ (Nat.le_of_ble_eq_true rfl) ⟨by omega, by omega⟩ rfl hH hS hl.1 (fun H locs hH hS => ?_)
  refine lv_icmp_eq (tgt := 1643) hx hb dL_law_1482 (by decide) (fun _ => ?_) (fun q => absurd rfl q)
  refine W.widen (k := cells + 1) (n := slots + 6) (by omega) (by omega) ?_
  exact kend _ _ _ _ _ _ hI2 hH hS hl
set_option maxRecDepth 100000 in
set_option maxHeartbeats 4000000 in
theorem lc_back (hSp : Sp_back Inv) (C : LC p l s m meth c b L xs GC GM) {i : Nat} {x4 : Int32} (ex : x4 = nI i) (hi : i + 6 ≤ L) (hc : cells + 1 ≤ 601024 ∧ slots + 6 ≤ 7293034) (hI : Inv σC σM) (hH : LH GC GM σC σM f H) (hS : va_S (fun q => s.heap.size ≤ q) s.heap H locs) (hl : lv_has ls 7 (lwL b s.heap.size x4))
    (kend : ∀ (σC σM : Sto) (f : Nat → Int64) (H : Heap) (locs : List Loc) (ls : Array Slot), Inv σC σM → LH GC GM σC σM f H → va_S (fun q => s.heap.size ≤ q) s.heap H locs → lv_has ls 7 (lwL b s.heap.size x4) → W p l e room_1 s m #[Value.ref b] below meth c H locs (cells + 1) (slots + 6) Q (F0 m 1643 ls [])) : W p l e room_1 s m #[Value.ref b] below meth c H locs cells slots Q (F0 m 1487 ls []) := by
  obtain ⟨hx, hb, hr, hml, hown, hts, hX, hbl, hlocks, hgv⟩ := id C.1
  have hbA : ¬ (fun q : Nat => s.heap.size ≤ q) b := Nat.not_le.mpr hbl
  have hL := C.2.1
  obtain ⟨v, τC, τM, h1, h2, hI2⟩ := hSp σC σM (xs (x4 + 1).toNatClampNeg) hI
  refine lv_aload_n hx hb dL_law_1487 rfl (lv_at hl 1 rfl) ?_
  refine lv_aload_n hx hb dL_law_1488 rfl (lv_at hl 0 rfl) ?_
  refine lv_iload hx hb dL_law_1489 (lv_at hl 4 rfl) ?_
  refine lv_iconst (v := 1) hx hb dL_law_1491 (by decide) ?_
  refine lv_iadd hx hb dL_law_1492 ?_
  refine va_sld hx hb hX hbl hbA hS (vp_x ex hi hL (k := 1) (by decide) (by decide)) dL_law_1493 ?_
  refine lw_cC (vs := [.int (xs (x4 + 1).toNatClampNeg)]) (rest := []) (τC := τC) (v := v) C (w_X11_back h1) mi_X11_back mv_X11_back ml_L_208 dL_law_1494 rfl rfl ⟨Nat.le_of_ble_eq_true rfl, Nat.le_of_ble_eq_true rfl⟩ (Nat.le_of_ble_eq_true rfl) ⟨by omega, by omega⟩ rfl hH hS hl.1 (fun H locs hH hS => ?_)
  refine lv_aload_n hx hb dL_law_1497 rfl (lv_at hl 2 rfl) ?_
  refine lv_aload_n hx hb dL_law_1498 rfl (lv_at hl 0 rfl) ?_
  refine lv_iload hx hb dL_law_1499 (lv_at hl 4 rfl) ?_
  refine lv_iconst (v := 1) hx hb dL_law_1501 (by decide) ?_
  refine lv_iadd hx hb dL_law_1502 ?_
  refine va_sld hx hb hX hbl hbA hS (vp_x ex hi hL (k := 1) (by decide) (by decide)) dL_law_1503 ?_
  refine lw_cM (vs := [.int (xs (x4 + 1).toNatClampNeg)]) (rest := [.int v]) (τM := τM) (v := v) C (w_X12_back h2) mi_X12_back mv_X12_back ml_L_211 dL_law_1504 rfl rfl ⟨Nat.le_of_ble_eq_true rfl, Nat.le_of_ble_eq_true rfl⟩ (Nat.le_of_ble_eq_true rfl) ⟨by omega, by omega⟩ rfl hH hS hl.1 (fun H locs hH hS => ?_)
  refine lv_icmp_eq (tgt := 1643) hx hb dL_law_1507 (by decide) (fun _ => ?_) (fun q => absurd rfl q)
  refine W.widen (k := cells + 1) (n := slots + 6) (by omega) (by omega) ?_
  exact kend _ _ _ _ _ _ hI2 hH hS hl
set_option maxRecDepth 100000 in
set_option maxHeartbeats 4000000 in
theorem lc_book (hSp : Sp_book Inv) (C : LC p l s m meth c b L xs GC GM) {i : Nat} {x4 : Int32} (ex : x4 = nI i) (hi : i + 6 ≤ L) (hc : cells + 1 ≤ 601024 ∧ slots + 6 ≤ 7293034) (hI : Inv σC σM) (hH : LH GC GM σC σM f H) (hS : va_S (fun q => s.heap.size ≤ q) s.heap H locs) (hl : lv_has ls 7 (lwL b s.heap.size x4))
    (kend : ∀ (σC σM : Sto) (f : Nat → Int64) (H : Heap) (locs : List Loc) (ls : Array Slot), Inv σC σM → LH GC GM σC σM f H → va_S (fun q => s.heap.size ≤ q) s.heap H locs → lv_has ls 7 (lwL b s.heap.size x4) → W p l e room_1 s m #[Value.ref b] below meth c H locs (cells + 1) (slots + 6) Q (F0 m 1643 ls [])) : W p l e room_1 s m #[Value.ref b] below meth c H locs cells slots Q (F0 m 1512 ls []) := by
  obtain ⟨hx, hb, hr, hml, hown, hts, hX, hbl, hlocks, hgv⟩ := id C.1
  have hbA : ¬ (fun q : Nat => s.heap.size ≤ q) b := Nat.not_le.mpr hbl
  have hL := C.2.1
  obtain ⟨v, τC, τM, h1, h2, hI2⟩ := hSp σC σM (xs (x4 + 1).toNatClampNeg) (xs (x4 + 2).toNatClampNeg) hI
  refine lv_aload_n hx hb dL_law_1512 rfl (lv_at hl 1 rfl) ?_
  refine lv_aload_n hx hb dL_law_1513 rfl (lv_at hl 0 rfl) ?_
  refine lv_iload hx hb dL_law_1514 (lv_at hl 4 rfl) ?_
  refine lv_iconst (v := 1) hx hb dL_law_1516 (by decide) ?_
  refine lv_iadd hx hb dL_law_1517 ?_
  refine va_sld hx hb hX hbl hbA hS (vp_x ex hi hL (k := 1) (by decide) (by decide)) dL_law_1518 ?_
  refine lv_aload_n hx hb dL_law_1519 rfl (lv_at hl 0 rfl) ?_
  refine lv_iload hx hb dL_law_1520 (lv_at hl 4 rfl) ?_
  refine lv_iconst (v := 2) hx hb dL_law_1522 (by decide) ?_
  refine lv_iadd hx hb dL_law_1523 ?_
  refine va_sld hx hb hX hbl hbA hS (vp_x ex hi hL (k := 2) (by decide) (by decide)) dL_law_1524 ?_
  refine lw_cC (vs := [.int (xs (x4 + 1).toNatClampNeg), .int (xs (x4 + 2).toNatClampNeg)]) (rest := []) (τC := τC) (v := v) C (w_X11_book h1) mi_X11_book mv_X11_book ml_L_212 dL_law_1525 rfl rfl ⟨Nat.le_of_ble_eq_true rfl, Nat.le_of_ble_eq_true rfl⟩ (Nat.le_of_ble_eq_true rfl) ⟨by omega, by omega⟩ rfl hH hS hl.1 (fun H locs hH hS => ?_)
  refine lv_aload_n hx hb dL_law_1528 rfl (lv_at hl 2 rfl) ?_
  refine lv_aload_n hx hb dL_law_1529 rfl (lv_at hl 0 rfl) ?_
  refine lv_iload hx hb dL_law_1530 (lv_at hl 4 rfl) ?_
  refine lv_iconst (v := 1) hx hb dL_law_1532 (by decide) ?_
  refine lv_iadd hx hb dL_law_1533 ?_
  refine va_sld hx hb hX hbl hbA hS (vp_x ex hi hL (k := 1) (by decide) (by decide)) dL_law_1534 ?_
  refine lv_aload_n hx hb dL_law_1535 rfl (lv_at hl 0 rfl) ?_
  refine lv_iload hx hb dL_law_1536 (lv_at hl 4 rfl) ?_
  refine lv_iconst (v := 2) hx hb dL_law_1538 (by decide) ?_
  refine lv_iadd hx hb dL_law_1539 ?_
  refine va_sld hx hb hX hbl hbA hS (vp_x ex hi hL (k := 2) (by decide) (by decide)) dL_law_1540 ?_
  refine lw_cM (vs := [.int (xs (x4 + 1).toNatClampNeg), .int (xs (x4 + 2).toNatClampNeg)]) (rest := [.int v]) (τM := τM) (v := v) C (w_X12_book h2) mi_X12_book mv_X12_book ml_L_215 dL_law_1541 rfl rfl ⟨Nat.le_of_ble_eq_true rfl, Nat.le_of_ble_eq_true rfl⟩ (Nat.le_of_ble_eq_true rfl) ⟨by omega, by omega⟩ rfl hH hS hl.1 (fun H locs hH hS => ?_)
  refine lv_icmp_eq (tgt := 1643) hx hb dL_law_1544 (by decide) (fun _ => ?_) (fun q => absurd rfl q)
  refine W.widen (k := cells + 1) (n := slots + 6) (by omega) (by omega) ?_
  exact kend _ _ _ _ _ _ hI2 hH hS hl
set_option maxRecDepth 100000 in
set_option maxHeartbeats 4000000 in
theorem lc_letter (hSp : Sp_letter Inv) (C : LC p l s m meth c b L xs GC GM) {i : Nat} {x4 : Int32} (ex : x4 = nI i) (hi : i + 6 ≤ L) (hc : cells + 1 ≤ 601024 ∧ slots + 6 ≤ 7293034) (hI : Inv σC σM) (hH : LH GC GM σC σM f H) (hS : va_S (fun q => s.heap.size ≤ q) s.heap H locs) (hl : lv_has ls 7 (lwL b s.heap.size x4))
    (kend : ∀ (σC σM : Sto) (f : Nat → Int64) (H : Heap) (locs : List Loc) (ls : Array Slot), Inv σC σM → LH GC GM σC σM f H → va_S (fun q => s.heap.size ≤ q) s.heap H locs → lv_has ls 7 (lwL b s.heap.size x4) → W p l e room_1 s m #[Value.ref b] below meth c H locs (cells + 1) (slots + 6) Q (F0 m 1643 ls [])) : W p l e room_1 s m #[Value.ref b] below meth c H locs cells slots Q (F0 m 1549 ls []) := by
  obtain ⟨hx, hb, hr, hml, hown, hts, hX, hbl, hlocks, hgv⟩ := id C.1
  have hbA : ¬ (fun q : Nat => s.heap.size ≤ q) b := Nat.not_le.mpr hbl
  have hL := C.2.1
  obtain ⟨r, z, w, h1, h2, h3, hcs, hI2⟩ := hSp σC σM (xs (x4 + 1).toNatClampNeg) (xs (x4 + 2).toNatClampNeg) hI
  refine lv_aload_n hx hb dL_law_1549 rfl (lv_at hl 1 rfl) ?_
  refine lv_aload_n hx hb dL_law_1550 rfl (lv_at hl 0 rfl) ?_
  refine lv_iload hx hb dL_law_1551 (lv_at hl 4 rfl) ?_
  refine lv_iconst (v := 1) hx hb dL_law_1553 (by decide) ?_
  refine lv_iadd hx hb dL_law_1554 ?_
  refine va_sld hx hb hX hbl hbA hS (vp_x ex hi hL (k := 1) (by decide) (by decide)) dL_law_1555 ?_
  refine lv_aload_n hx hb dL_law_1556 rfl (lv_at hl 0 rfl) ?_
  refine lv_iload hx hb dL_law_1557 (lv_at hl 4 rfl) ?_
  refine lv_iconst (v := 2) hx hb dL_law_1559 (by decide) ?_
  refine lv_iadd hx hb dL_law_1560 ?_
  refine va_sld hx hb hX hbl hbA hS (vp_x ex hi hL (k := 2) (by decide) (by decide)) dL_law_1561 ?_
  refine lv_aload_n hx hb dL_law_1562 rfl (lv_at hl 3 rfl) ?_
  refine lw_cO (vs := [.int (xs (x4 + 1).toNatClampNeg), .int (xs (x4 + 2).toNatClampNeg)]) (n := 4) C (by have := w_L_letter (G := GC) (bO := GM.2.2.1.2) (f := f) C.2.2.1 h1; exact this) ⟨cw_L_letter, ms_L_letter, rfl, by decide +kernel, by decide +kernel, by decide +kernel⟩ ml_L_216 dL_law_1563 rfl (by decide) ⟨hc.1, hc.2⟩ rfl hH hS hl.1 (fun k9 f9 H locs hk9 hH hS => ?_)
  refine lv_istore (lv' := [(5, .int k9), (0, .ref b), (1, .ref s.heap.size), (2, .ref (s.heap.size + 134)), (3, .ref (s.heap.size + 153)), (4, .int x4)]) hx hb dL_law_1566 hl (by decide) rfl (fun ls hl => ?_)
  refine lv_aload_n hx hb dL_law_1568 rfl (lv_at hl 3 rfl) ?_
  refine lv_aload_n hx hb dL_law_1569 rfl (lv_at hl 1 rfl) ?_
  refine lv_iload hx hb dL_law_1570 (lv_at hl 5 rfl) ?_
  refine lv_iconst (v := 1) hx hb dL_law_1572 (by decide) ?_
  refine lv_iadd hx hb dL_law_1573 ?_
  refine va_sld hx hb hX hbl hbA hS (vp_x ex hi hL (k := 1) (by decide) (by decide)) dL_law_1574 ?_
  refine lv_aload_n hx hb dL_law_1575 rfl (lv_at hl 1 rfl) ?_
  refine lv_iload hx hb dL_law_1576 (lv_at hl 5 rfl) ?_
  refine lv_iconst (v := 2) hx hb dL_law_1578 (by decide) ?_
  refine lv_iadd hx hb dL_law_1579 ?_
  refine va_sld hx hb hX hbl hbA hS (vp_x ex hi hL (k := 2) (by decide) (by decide)) dL_law_1580 ?_
  refine lw_cM (vs := [.int (xs (x4 + 1).toNatClampNeg), .int (xs (x4 + 2).toNatClampNeg)]) (rest := []) (τM := z.2) (v := z.1) C (w_X12_letter h2) mi_X12_letter mv_X12_letter ml_L_219 dL_law_1581 rfl rfl ⟨Nat.le_of_ble_eq_true rfl, Nat.le_of_ble_eq_true rfl⟩ (Nat.le_of_ble_eq_true rfl) ⟨by omega, by omega⟩ rfl hH hS hl.1 (fun H locs hH hS => ?_)
  refine lv_istore (lv' := [(6, .int z.1), (5, .int k9), (0, .ref b), (1, .ref s.heap.size), (2, .ref (s.heap.size + 134)), (3, .ref (s.heap.size + 153)), (4, .int x4)]) hx hb dL_law_1584 hl (by decide) rfl (fun ls hl => ?_)
  refine lv_aload_n hx hb dL_law_1586 rfl (lv_at hl 4 rfl) ?_
  refine lw_cM (vs := []) (rest := []) (τM := z.2) (v := w) C (w_X12_thrown h3) mi_X12_thrown mv_X12_thrown ml_L_175 dL_law_1587 rfl rfl ⟨Nat.le_of_ble_eq_true rfl, Nat.le_of_ble_eq_true rfl⟩ (Nat.le_of_ble_eq_true rfl) ⟨by omega, by omega⟩ rfl hH hS hl.1 (fun H locs hH hS => ?_)
  refine lv_iload hx hb dL_law_1590 (lv_at hl 1 rfl) ?_
  have hwk : w = k9 := by rcases hcs with ⟨a1, a2⟩ | ⟨a1, a2⟩ <;> rcases hk9 with ⟨b1, b2, -⟩ | ⟨v9, b1, b2, -⟩ <;> first | (rw [a2, b2]; done) | (rw [a1] at b1; cases b1)
  refine lv_icmp_eq (tgt := 1597) hx hb dL_law_1592 (by decide) (fun _ => ?_) (fun q => absurd hwk q)
  refine lv_iload hx hb dL_law_1597 (lv_at hl 1 rfl) ?_
  refine lv_if_ne (tgt := 1614) hx hb dL_law_1599 (by decide) (fun q => ?_) (fun q => ?_)
  · refine lv_goto (tgt := 1643) hx hb dL_law_1614 (by decide) ?_
    exact kend _ _ _ _ _ _ hI2 hH hS (lv_sub hl [2, 3, 4, 5, 6] rfl)
  · refine lv_aload_n hx hb dL_law_1602 rfl (lv_at hl 5 rfl) ?_
    refine lv_iconst (v := 0) hx hb dL_law_1603 (by decide) ?_
    have hbO : GM.2.2.1.2 = s.heap.size + 153 := by rw [C.bM]
    have hO9 := hH.2.2
    rw [hbO] at hO9
    refine va_lald hx hb C.K hO9 0 1 (cA := GC.2.1 1) (n := 1) (f := f9) rfl rfl (show ib 0 1 from by decide) dL_law_1604 ?_
    refine lv_iload hx hb dL_law_1605 (lv_at hl 0 rfl) ?_
    refine lv_i2l hx hb dL_law_1607 rfl ?_
    refine W.lcmp hx hb dL_law_1608 ?_
    have hfz : f9 (Int32.toNatClampNeg 0) = z.1.toInt64 := by
      have e0 : Int32.toNatClampNeg 0 = 0 := by decide
      rw [e0]
      rcases hk9 with ⟨b1, b2, -⟩ | ⟨v9, b1, b2, b3⟩
      · exact absurd q (by rw [b2]; decide)
      · rcases hcs with ⟨a1, a2⟩ | ⟨a1, a2⟩
        · rw [a1] at b1; cases b1
        · rw [a1] at b1; cases b1; exact b3
    refine lv_if_eq (tgt := 1614) hx hb dL_law_1609 (by decide) (fun _ => ?_) (fun q2 => absurd (by rw [hfz]; simp [lg_cmp]) q2)
    refine lv_goto (tgt := 1643) hx hb dL_law_1614 (by decide) ?_
    exact kend _ _ _ _ _ _ hI2 hH hS (lv_sub hl [2, 3, 4, 5, 6] rfl)
set_option maxRecDepth 100000 in
set_option maxHeartbeats 4000000 in
theorem lc_bytes (hSp : Sp_bytes Inv) (C : LC p l s m meth c b L xs GC GM) {i : Nat} {x4 : Int32} (ex : x4 = nI i) (hi : i + 6 ≤ L) (hc : cells + 1 ≤ 601024 ∧ slots + 6 ≤ 7293034) (hI : Inv σC σM) (hH : LH GC GM σC σM f H) (hS : va_S (fun q => s.heap.size ≤ q) s.heap H locs) (hl : lv_has ls 7 (lwL b s.heap.size x4))
    (kend : ∀ (σC σM : Sto) (f : Nat → Int64) (H : Heap) (locs : List Loc) (ls : Array Slot), Inv σC σM → LH GC GM σC σM f H → va_S (fun q => s.heap.size ≤ q) s.heap H locs → lv_has ls 7 (lwL b s.heap.size x4) → W p l e room_1 s m #[Value.ref b] below meth c H locs (cells + 1) (slots + 6) Q (F0 m 1643 ls [])) : W p l e room_1 s m #[Value.ref b] below meth c H locs cells slots Q (F0 m 1617 ls []) := by
  obtain ⟨hx, hb, hr, hml, hown, hts, hX, hbl, hlocks, hgv⟩ := id C.1
  have hbA : ¬ (fun q : Nat => s.heap.size ≤ q) b := Nat.not_le.mpr hbl
  have hL := C.2.1
  obtain ⟨v, τM, h1, h2, hI2⟩ := hSp σC σM  hI
  refine lv_aload_n hx hb dL_law_1617 rfl (lv_at hl 1 rfl) ?_
  refine lw_cC (vs := []) (rest := []) (τC := σC) (v := v) C (w_X11_bytes h1) mi_X11_bytes mv_X11_bytes ml_L_220 dL_law_1618 rfl rfl ⟨Nat.le_of_ble_eq_true rfl, Nat.le_of_ble_eq_true rfl⟩ (Nat.le_of_ble_eq_true rfl) ⟨by omega, by omega⟩ rfl hH hS hl.1 (fun H locs hH hS => ?_)
  refine lv_aload_n hx hb dL_law_1621 rfl (lv_at hl 2 rfl) ?_
  refine lw_cM (vs := []) (rest := [.int v]) (τM := τM) (v := v) C (w_X12_bytes h2) mi_X12_bytes mv_X12_bytes ml_L_223 dL_law_1622 rfl rfl ⟨Nat.le_of_ble_eq_true rfl, Nat.le_of_ble_eq_true rfl⟩ (Nat.le_of_ble_eq_true rfl) ⟨by omega, by omega⟩ rfl hH hS hl.1 (fun H locs hH hS => ?_)
  refine lv_icmp_eq (tgt := 1643) hx hb dL_law_1625 (by decide) (fun _ => ?_) (fun q => absurd rfl q)
  refine W.widen (k := cells + 1) (n := slots + 6) (by omega) (by omega) ?_
  exact kend _ _ _ _ _ _ hI2 hH hS hl
set_option maxRecDepth 100000 in
set_option maxHeartbeats 4000000 in
theorem lc_trouble (hSp : Sp_trouble Inv) (C : LC p l s m meth c b L xs GC GM) {i : Nat} {x4 : Int32} (ex : x4 = nI i) (hi : i + 6 ≤ L) (hc : cells + 1 ≤ 601024 ∧ slots + 6 ≤ 7293034) (hI : Inv σC σM) (hH : LH GC GM σC σM f H) (hS : va_S (fun q => s.heap.size ≤ q) s.heap H locs) (hl : lv_has ls 7 (lwL b s.heap.size x4))
    (kend : ∀ (σC σM : Sto) (f : Nat → Int64) (H : Heap) (locs : List Loc) (ls : Array Slot), Inv σC σM → LH GC GM σC σM f H → va_S (fun q => s.heap.size ≤ q) s.heap H locs → lv_has ls 7 (lwL b s.heap.size x4) → W p l e room_1 s m #[Value.ref b] below meth c H locs (cells + 1) (slots + 6) Q (F0 m 1643 ls [])) : W p l e room_1 s m #[Value.ref b] below meth c H locs cells slots Q (F0 m 1630 ls []) := by
  obtain ⟨hx, hb, hr, hml, hown, hts, hX, hbl, hlocks, hgv⟩ := id C.1
  have hbA : ¬ (fun q : Nat => s.heap.size ≤ q) b := Nat.not_le.mpr hbl
  have hL := C.2.1
  obtain ⟨v, τM, h1, h2, hI2⟩ := hSp σC σM  hI
  refine lv_aload_n hx hb dL_law_1630 rfl (lv_at hl 1 rfl) ?_
  refine lw_cC (vs := []) (rest := []) (τC := σC) (v := v) C (w_X11_trouble h1) mi_X11_trouble mv_X11_trouble ml_L_224 dL_law_1631 rfl rfl ⟨Nat.le_of_ble_eq_true rfl, Nat.le_of_ble_eq_true rfl⟩ (Nat.le_of_ble_eq_true rfl) ⟨by omega, by omega⟩ rfl hH hS hl.1 (fun H locs hH hS => ?_)
  refine lv_aload_n hx hb dL_law_1634 rfl (lv_at hl 2 rfl) ?_
  refine lw_cM (vs := []) (rest := [.int v]) (τM := τM) (v := v) C (w_X12_trouble h2) mi_X12_trouble mv_X12_trouble ml_L_227 dL_law_1635 rfl rfl ⟨Nat.le_of_ble_eq_true rfl, Nat.le_of_ble_eq_true rfl⟩ (Nat.le_of_ble_eq_true rfl) ⟨by omega, by omega⟩ rfl hH hS hl.1 (fun H locs hH hS => ?_)
  refine lv_icmp_eq (tgt := 1643) hx hb dL_law_1638 (by decide) (fun _ => ?_) (fun q => absurd rfl q)
  refine W.widen (k := cells + 1) (n := slots + 6) (by omega) (by omega) ?_
  exact kend _ _ _ _ _ _ hI2 hH hS hl
end LAW
