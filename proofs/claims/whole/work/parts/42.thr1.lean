/-! Throws: the stand taken anew at the state in which an exception is made. -/
theorem xre_hears {s T : State} (h : s.vm.Alike T.vm) (fs : List Frame) (m : MethodId) (below : List Frame) : (T.setFrames fs).hears m below = s.hears m below := by
  have hm : ∀ q, (T.setFrames fs).vm.method? q = s.vm.method? q := fun q => h.method? q
  unfold State.hears
  split
  · simp only [State.code?_eq, hm]
  · rfl
  · rfl
  · rw [hm]
theorem xre {p : Program} {l : Launch} {e : Env} {R R' : Room} {s : State} {m : MethodId} {args : Array Value} {below : List Frame} {meth : Method} {c : Code} {T : State} {locs : List Loc} {cells slots : Nat} (X : Stand p l e R s m args below meth c T locs cells slots) (hf : R'.frames ≤ R.frames) (hl : R'.locals ≤ R.locals) (hc : cells + R'.cells ≤ R.cells) (hs : slots + R'.slots ≤ R.slots) : Stand p l e R' (T.setFrames (.invoking m args :: below)) m args below meth c T [] 0 0 := by
  obtain ⟨g₀, hfr⟩ := X.frames_eq
  have hcur : T.cur < T.threads.size := State.cur_lt_of_frames hfr
  obtain ⟨t, ht, -⟩ := State.frames_cons hfr
  have hfs : (T.setFrames (.invoking m args :: below)).frames = .invoking m args :: below := State.frames_setFrames _ hcur
  have hm' : (T.setFrames (.invoking m args :: below)).vm.method? m = some meth := X.method'
  refine ⟨X.admits, X.cas, X.clock, hfs, ?_, by rw [xre_hears X.warmed.alike]; exact X.hears, hm', X.code, X.here, X.tail, State.WarmedH.refl _, by rw [State.stackLimits_setFrames], by rw [State.stackBytes_setFrames], ?_⟩
  · have hr := X.room
    have h1 := State.localsInUse_invoking X.frames X.method X.code
    have h2 := State.localsInUse_invoking hfs hm' X.code
    have hb : T.slotsTrue = true := X.book
    have hh := X.heapSize
    have hu := X.used
    have e1 : e.platform.stackLimits (T.setFrames (.invoking m args :: below)).me = e.platform.stackLimits s.me := by rw [State.stackLimits_setFrames]; exact X.limits
    have e2 : (T.setFrames (.invoking m args :: below)).me.stackBytes = s.me.stackBytes := by rw [State.stackBytes_setFrames]; exact X.bytes
    simp only [State.hasRoom, Bool.and_eq_true, decide_eq_true_eq] at hr ⊢
    rw [h1, X.frames] at hr
    rw [h2, hfs, e1, e2]
    refine ⟨⟨⟨⟨by omega, by omega, by omega, by omega, by omega, by omega⟩, ?_⟩, ?_⟩, hb⟩
    · show T.heap.size + R'.cells ≤ _
      omega
    · show T.slotsUsed + R'.slots ≤ _
      omega
  · have h0 := (State.sameButNew.refl (T.setFrames (.invoking m args :: below)) (x := (T.setFrames (.invoking m args :: below)).threads[T.cur]'(by simpa [State.setFrames] using hcur)) (by simp [State.setFrames])).setFrames T.frames (by simpa [State.setFrames] using hcur)
    rw [State.setFrames_setFrames, State.setFrames_self ht] at h0
    exact h0
