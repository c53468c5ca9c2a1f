/-! ===== the start, closed ===== -/
theorem whole_start {p : Program} {e : Env} {s : State} {m : MethodId} {below : List Frame} {meth : Method} {c : Code} (l : Launch) {b L : Nat} {xs : Nat → Int32} (hL : L ≤ 384) (C0 : lw_At p s m meth c b L xs) : W p l e room_1 s m #[Value.ref b] below meth c s.heap [] 0 0 (lw_Z below #[Value.ref b] s) (entryFrame m ([Value.ref b] : List Value).toArray 4) :=
  whole_start_open (fun _ hE => ⟨753, 22667, by decide, by decide, sp_enter (lp_18 hE (fun _ => rfl) 65 0 (by decide) (by decide) (by decide) (by decide) sp_NI rt_Q0)⟩) l hL C0
