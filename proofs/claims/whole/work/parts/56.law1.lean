/-! ===== every call: both contracts, and what holds behind them (printed by gen3.py) ===== -/
theorem b_cistern (l : Launch) (g : gG) (d : Nat → Nat) (V : Vt) (M : Mm) (h : Inv V M) (a1 a2 : Int32) : ∃ (r : Int32) (V2 : Vt) (M2 : Mm), Inv V2 M2 ∧ Ct l yX6_cistern wsX6_cistern (rmm 2 48) g (wVd g d V) (wVd g d V2) [.ref (d 0), .int a1, .int a2] (some (.int r)) ∧ Ct l yX7_cistern wsX7_cistern (rmm 2 48) g (wMd g d M) (wMd g d M2) [.ref (d 40), .int a1, .int a2] (some (.int r)) := by
  obtain ⟨R, N, B, S, C, P, Q, K, X, fd, tl, ik⟩ := V
  obtain ⟨now, kept, aside, ik7, found, carried, T, Sm⟩ := M
  obtain ⟨hR, hik, hN, hB, hX, hF, m, hm, hm0, hT⟩ := Inv.to h
  subst hm0
  subst hik
  obtain ⟨v, R2, fd2, now2, found2, h1, h2, hR2, hF2⟩ := op_cistern (R := R) (now := now) (fd := fd) (found := found) hR hF a1 a2
  exact ⟨v, (R2, N, B, S, C, P, Q, K, X, fd2, nI m, ik), (now2, kept, aside, ik, found2, carried, T, Sm), Inv.of hR2 rfl hN hB hX hF2 hm hT, c_X6_cistern l g _ _ _ _ _ _ _ _ _ _ _ _ _ _ _ _ _ _ _ _ _ _ _ _ _ _ _ _ _ _ _ _ _ _ _ _ _ _ _ _ _ a1 a2 h1, c_X7_cistern l g _ _ _ _ _ _ _ _ _ _ _ _ _ _ _ _ _ _ _ _ _ a1 a2 h2⟩
theorem b_of (l : Launch) (g : gG) (d : Nat → Nat) (V : Vt) (M : Mm) (h : Inv V M) (a1 a2 : Int32) : ∃ (r : Int32) (V2 : Vt) (M2 : Mm), Inv V2 M2 ∧ Ct l yX6_of wsX6_of (rmm 3 68) g (wVd g d V) (wVd g d V2) [.ref (d 0), .int a1, .int a2] (some (.int r)) ∧ Ct l yX7_of wsX7_of (rmm 3 66) g (wMd g d M) (wMd g d M2) [.ref (d 40), .int a1, .int a2] (some (.int r)) := by
  obtain ⟨R, N, B, S, C, P, Q, K, X, fd, tl, ik⟩ := V
  obtain ⟨now, kept, aside, ik7, found, carried, T, Sm⟩ := M
  obtain ⟨hR, hik, hN, hB, hX, hF, m, hm, hm0, hT⟩ := Inv.to h
  subst hm0
  subst hik
  obtain ⟨v, fd2, found2, h1, h2, hF2⟩ := op_of (R := R) (now := now) (fd := fd) (found := found) hR hF a1 a2
  exact ⟨v, (R, N, B, S, C, P, Q, K, X, fd2, nI m, ik), (now, kept, aside, ik, found2, carried, T, Sm), Inv.of hR rfl hN hB hX hF2 hm hT, c_X6_of l g _ _ _ _ _ _ _ _ _ _ _ _ _ _ _ _ _ _ _ _ _ _ _ _ _ _ _ _ _ _ _ _ _ _ _ _ _ _ _ _ _ a1 a2 h1, c_X7_of l g _ _ _ _ _ _ _ _ _ _ _ _ _ _ _ _ _ _ _ _ _ a1 a2 h2⟩
theorem b_change (l : Launch) (g : gG) (d : Nat → Nat) (V : Vt) (M : Mm) (h : Inv V M) (a1 a2 a3 : Int32) : ∃ (r : Int32) (V2 : Vt) (M2 : Mm), Inv V2 M2 ∧ Ct l yX6_change wsX6_change (rmm 2 65) g (wVd g d V) (wVd g d V2) [.ref (d 0), .int a1, .int a2, .int a3] (some (.int r)) ∧ Ct l yX7_change wsX7_change (rmm 3 66) g (wMd g d M) (wMd g d M2) [.ref (d 40), .int a1, .int a2, .int a3] (some (.int r)) := by
  obtain ⟨R, N, B, S, C, P, Q, K, X, fd, tl, ik⟩ := V
  obtain ⟨now, kept, aside, ik7, found, carried, T, Sm⟩ := M
  obtain ⟨hR, hik, hN, hB, hX, hF, m, hm, hm0, hT⟩ := Inv.to h
  subst hm0
  subst hik
  obtain ⟨v, R2, fd2, now2, found2, h1, h2, hR2, hF2⟩ := op_change (R := R) (now := now) (fd := fd) (found := found) hR hF a1 a2 a3
  exact ⟨v, (R2, N, B, S, C, P, Q, K, X, fd2, nI m, ik), (now2, kept, aside, ik, found2, carried, T, Sm), Inv.of hR2 rfl hN hB hX hF2 hm hT, c_X6_change l g _ _ _ _ _ _ _ _ _ _ _ _ _ _ _ _ _ _ _ _ _ _ _ _ _ _ _ _ _ _ _ _ _ _ _ _ _ _ _ _ _ a1 a2 a3 h1, c_X7_change l g _ _ _ _ _ _ _ _ _ _ _ _ _ _ _ _ _ _ _ _ _ a1 a2 a3 h2⟩
theorem b_cold (l : Launch) (g : gG) (d : Nat → Nat) (V : Vt) (M : Mm) (h : Inv V M) (a1 : Int32) : ∃ (r : Int32) (V2 : Vt) (M2 : Mm), Inv V2 M2 ∧ Ct l yX6_cold wsX6_cold (rmm 2 44) g (wVd g d V) (wVd g d V2) [.ref (d 0), .int a1] (some (.int r)) ∧ Ct l yX7_cold wsX7_cold (rmm 1 23) g (wMd g d M) (wMd g d M2) [.ref (d 40), .int a1] (some (.int r)) := by
  obtain ⟨R, N, B, S, C, P, Q, K, X, fd, tl, ik⟩ := V
  obtain ⟨now, kept, aside, ik7, found, carried, T, Sm⟩ := M
  obtain ⟨hR, hik, hN, hB, hX, hF, m, hm, hm0, hT⟩ := Inv.to h
  subst hm0
  subst hik
  obtain ⟨v, R2, fd2, now2, found2, h1, h2, hR2, hF2⟩ := op_cold (R := R) (now := now) (fd := fd) (found := found) hR hF a1
  exact ⟨v, (R2, N, B, S, C, P, Q, K, X, fd2, nI m, ik), (now2, kept, aside, ik, found2, carried, T, Sm), Inv.of hR2 rfl hN hB hX hF2 hm hT, c_X6_cold l g _ _ _ _ _ _ _ _ _ _ _ _ _ _ _ _ _ _ _ _ _ _ _ _ _ _ _ _ _ _ _ _ _ _ _ _ _ _ _ _ _ a1 h1, c_X7_cold l g _ _ _ _ _ _ _ _ _ _ _ _ _ _ _ _ _ _ _ _ _ a1 h2⟩
theorem b_catches (l : Launch) (g : gG) (d : Nat → Nat) (V : Vt) (M : Mm) (h : Inv V M) (a1 a2 a3 : Int32) : ∃ (r : Int32) (V2 : Vt) (M2 : Mm), Inv V2 M2 ∧ Ct l yX6_catches wsX6_catches (rmm 3 70) g (wVd g d V) (wVd g d V2) [.ref (d 0), .int a1, .int a2, .int a3] (some (.int r)) ∧ Ct l yX7_catches wsX7_catches (rmm 5 111) g (wMd g d M) (wMd g d M2) [.ref (d 40), .int a1, .int a2, .int a3] (some (.int r)) := by
  obtain ⟨R, N, B, S, C, P, Q, K, X, fd, tl, ik⟩ := V
  obtain ⟨now, kept, aside, ik7, found, carried, T, Sm⟩ := M
  obtain ⟨hR, hik, hN, hB, hX, hF, m, hm, hm0, hT⟩ := Inv.to h
  subst hm0
  subst hik
  obtain ⟨v, fd2, found2, h1, h2, hF2⟩ := op_catches (R := R) (now := now) (fd := fd) (found := found) hR hF a1 a2 a3
  exact ⟨v, (R, N, B, S, C, P, Q, K, X, fd2, nI m, ik), (now, kept, aside, ik, found2, carried, T, Sm), Inv.of hR rfl hN hB hX hF2 hm hT, c_X6_catches l g _ _ _ _ _ _ _ _ _ _ _ _ _ _ _ _ _ _ _ _ _ _ _ _ _ _ _ _ _ _ _ _ _ _ _ _ _ _ _ _ _ a1 a2 a3 h1, c_X7_catches l g _ _ _ _ _ _ _ _ _ _ _ _ _ _ _ _ _ _ _ _ _ a1 a2 a3 h2⟩
theorem b_below (l : Launch) (g : gG) (d : Nat → Nat) (V : Vt) (M : Mm) (h : Inv V M) (a1 : Int32) : ∃ (r : Int32) (V2 : Vt) (M2 : Mm), Inv V2 M2 ∧ Ct l yX6_below wsX6_below (rmm 3 69) g (wVd g d V) (wVd g d V2) [.ref (d 0), .int a1] (some (.int r)) ∧ Ct l yX7_below wsX7_below (rmm 3 65) g (wMd g d M) (wMd g d M2) [.ref (d 40), .int a1] (some (.int r)) := by
  obtain ⟨R, N, B, S, C, P, Q, K, X, fd, tl, ik⟩ := V
  obtain ⟨now, kept, aside, ik7, found, carried, T, Sm⟩ := M
  obtain ⟨hR, hik, hN, hB, hX, hF, m, hm, hm0, hT⟩ := Inv.to h
  subst hm0
  subst hik
  obtain ⟨v, fd2, found2, h1, h2, hF2⟩ := op_below (R := R) (now := now) (fd := fd) (found := found) hR hF a1
  exact ⟨v, (R, N, B, S, C, P, Q, K, X, fd2, nI m, ik), (now, kept, aside, ik, found2, carried, T, Sm), Inv.of hR rfl hN hB hX hF2 hm hT, c_X6_below l g _ _ _ _ _ _ _ _ _ _ _ _ _ _ _ _ _ _ _ _ _ _ _ _ _ _ _ _ _ _ _ _ _ _ _ _ _ _ _ _ _ a1 h1, c_X7_below l g _ _ _ _ _ _ _ _ _ _ _ _ _ _ _ _ _ _ _ _ _ a1 h2⟩
theorem b_lock (l : Launch) (g : gG) (d : Nat → Nat) (V : Vt) (M : Mm) (h : Inv V M) (a1 a2 a3 : Int32) : ∃ (r : Int32) (V2 : Vt) (M2 : Mm), Inv V2 M2 ∧ Ct l yX6_lock wsX6_lock (rmm 3 70) g (wVd g d V) (wVd g d V2) [.ref (d 0), .int a1, .int a2, .int a3] (some (.int r)) ∧ Ct l yX7_lock wsX7_lock (rmm 1 24) g (wMd g d M) (wMd g d M2) [.ref (d 40), .int a1, .int a2, .int a3] (some (.int r)) := by
  obtain ⟨R, N, B, S, C, P, Q, K, X, fd, tl, ik⟩ := V
  obtain ⟨now, kept, aside, ik7, found, carried, T, Sm⟩ := M
  obtain ⟨hR, hik, hN, hB, hX, hF, m, hm, hm0, hT⟩ := Inv.to h
  subst hm0
  subst hik
  obtain ⟨v, R2, fd2, now2, found2, h1, h2, hR2, hF2⟩ := op_lock (R := R) (now := now) (fd := fd) (found := found) hR hF a1 a2 a3
  exact ⟨v, (R2, N, B, S, C, P, Q, K, X, fd2, nI m, ik), (now2, kept, aside, ik, found2, carried, T, Sm), Inv.of hR2 rfl hN hB hX hF2 hm hT, c_X6_lock l g _ _ _ _ _ _ _ _ _ _ _ _ _ _ _ _ _ _ _ _ _ _ _ _ _ _ _ _ _ _ _ _ _ _ _ _ _ _ _ _ _ a1 a2 a3 h1, c_X7_lock l g _ _ _ _ _ _ _ _ _ _ _ _ _ _ _ _ _ _ _ _ _ a1 a2 a3 h2⟩
theorem b_lockOf (l : Launch) (g : gG) (d : Nat → Nat) (V : Vt) (M : Mm) (h : Inv V M) (a1 a2 : Int32) : ∃ (r : Int32) (V2 : Vt) (M2 : Mm), Inv V2 M2 ∧ Ct l yX6_lockOf wsX6_lockOf (rmm 4 91) g (wVd g d V) (wVd g d V2) [.ref (d 0), .int a1, .int a2] (some (.int r)) ∧ Ct l yX7_lockOf wsX7_lockOf (rmm 4 90) g (wMd g d M) (wMd g d M2) [.ref (d 40), .int a1, .int a2] (some (.int r)) := by
  obtain ⟨R, N, B, S, C, P, Q, K, X, fd, tl, ik⟩ := V
  obtain ⟨now, kept, aside, ik7, found, carried, T, Sm⟩ := M
  obtain ⟨hR, hik, hN, hB, hX, hF, m, hm, hm0, hT⟩ := Inv.to h
  subst hm0
  subst hik
  obtain ⟨v, fd2, found2, h1, h2, hF2⟩ := op_lockOf (R := R) (now := now) (fd := fd) (found := found) hR hF a1 a2
  exact ⟨v, (R, N, B, S, C, P, Q, K, X, fd2, nI m, ik), (now, kept, aside, ik, found2, carried, T, Sm), Inv.of hR rfl hN hB hX hF2 hm hT, c_X6_lockOf l g _ _ _ _ _ _ _ _ _ _ _ _ _ _ _ _ _ _ _ _ _ _ _ _ _ _ _ _ _ _ _ _ _ _ _ _ _ _ _ _ _ a1 a2 h1, c_X7_lockOf l g _ _ _ _ _ _ _ _ _ _ _ _ _ _ _ _ _ _ _ _ _ a1 a2 h2⟩
theorem b_pick (l : Launch) (g : gG) (d : Nat → Nat) (V : Vt) (M : Mm) (h : Inv V M) (a1 : Int32) : ∃ (r : Int32) (V2 : Vt) (M2 : Mm), Inv V2 M2 ∧ Ct l yX6_pick wsX6_pick (rmm 3 68) g (wVd g d V) (wVd g d V2) [.ref (d 0), .int a1] (some (.int r)) ∧ Ct l yX7_pick wsX7_pick (rmm 1 22) g (wMd g d M) (wMd g d M2) [.ref (d 40), .int a1] (some (.int r)) := by
  obtain ⟨R, N, B, S, C, P, Q, K, X, fd, tl, ik⟩ := V
  obtain ⟨now, kept, aside, ik7, found, carried, T, Sm⟩ := M
  obtain ⟨hR, hik, hN, hB, hX, hF, m, hm, hm0, hT⟩ := Inv.to h
  subst hm0
  subst hik
  obtain ⟨v, R2, fd2, now2, found2, h1, h2, hR2, hF2⟩ := op_pick (R := R) (now := now) (fd := fd) (found := found) hR hF a1
  exact ⟨v, (R2, N, B, S, C, P, Q, K, X, fd2, nI m, ik), (now2, kept, aside, ik, found2, carried, T, Sm), Inv.of hR2 rfl hN hB hX hF2 hm hT, c_X6_pick l g _ _ _ _ _ _ _ _ _ _ _ _ _ _ _ _ _ _ _ _ _ _ _ _ _ _ _ _ _ _ _ _ _ _ _ _ _ _ _ _ _ a1 h1, c_X7_pick l g _ _ _ _ _ _ _ _ _ _ _ _ _ _ _ _ _ _ _ _ _ a1 h2⟩
theorem b_holding (l : Launch) (g : gG) (d : Nat → Nat) (V : Vt) (M : Mm) (h : Inv V M) : ∃ (r : Int32) (V2 : Vt) (M2 : Mm), Inv V2 M2 ∧ Ct l yX6_holding wsX6_holding (rmm 4 91) g (wVd g d V) (wVd g d V2) [.ref (d 0)] (some (.int r)) ∧ Ct l yX7_holding wsX7_holding (rmm 4 90) g (wMd g d M) (wMd g d M2) [.ref (d 40)] (some (.int r)) := by
  obtain ⟨R, N, B, S, C, P, Q, K, X, fd, tl, ik⟩ := V
  obtain ⟨now, kept, aside, ik7, found, carried, T, Sm⟩ := M
  obtain ⟨hR, hik, hN, hB, hX, hF, m, hm, hm0, hT⟩ := Inv.to h
  subst hm0
  subst hik
  obtain ⟨v, h1, h2⟩ := op_holding (R := R) (now := now) hR
  exact ⟨v, (R, N, B, S, C, P, Q, K, X, fd, nI m, ik), (now, kept, aside, ik, found, carried, T, Sm), Inv.of hR rfl hN hB hX hF hm hT, c_X6_holding l g _ _ _ _ _ _ _ _ _ _ _ _ _ _ _ _ _ _ _ _ _ _ _ _ _ _ _ _ _ _ _ _ _ _ _ _ _ _ _ _ _ h1, c_X7_holding l g _ _ _ _ _ _ _ _ _ _ _ _ _ _ _ _ _ _ _ _ _ h2⟩
theorem b_open (l : Launch) (g : gG) (d : Nat → Nat) (V : Vt) (M : Mm) (h : Inv V M) : ∃ (r : Int32) (V2 : Vt) (M2 : Mm), Inv V2 M2 ∧ Ct l yX6_open wsX6_open (rmm 5 112) g (wVd g d V) (wVd g d V2) [.ref (d 0)] (some (.int r)) ∧ Ct l yX7_open wsX7_open (rmm 6 132) g (wMd g d M) (wMd g d M2) [.ref (d 40)] (some (.int r)) := by
  obtain ⟨R, N, B, S, C, P, Q, K, X, fd, tl, ik⟩ := V
  obtain ⟨now, kept, aside, ik7, found, carried, T, Sm⟩ := M
  obtain ⟨hR, hik, hN, hB, hX, hF, m, hm, hm0, hT⟩ := Inv.to h
  subst hm0
  subst hik
  obtain ⟨v, h1, h2⟩ := op_open (R := R) (now := now) hR
  exact ⟨v, (R, N, B, S, C, P, Q, K, X, fd, nI m, ik), (now, kept, aside, ik, found, carried, T, Sm), Inv.of hR rfl hN hB hX hF hm hT, c_X6_open l g _ _ _ _ _ _ _ _ _ _ _ _ _ _ _ _ _ _ _ _ _ _ _ _ _ _ _ _ _ _ _ _ _ _ _ _ _ _ _ _ _ h1, c_X7_open l g _ _ _ _ _ _ _ _ _ _ _ _ _ _ _ _ _ _ _ _ _ h2⟩
theorem b_rain (l : Launch) (g : gG) (d : Nat → Nat) (V : Vt) (M : Mm) (h : Inv V M) (a1 a2 a3 : Int32) : ∃ (r : Int32) (V2 : Vt) (M2 : Mm), Inv V2 M2 ∧ Ct l yX6_rain wsX6_rain (rmm 6 137) g (wVd g d V) (wVd g d V2) [.ref (d 0), .int a1, .int a2, .int a3] (some (.int r)) ∧ Ct l yX7_rain wsX7_rain (rmm 9 202) g (wMd g d M) (wMd g d M2) [.ref (d 40), .int a1, .int a2, .int a3] (some (.int r)) := by
  obtain ⟨R, N, B, S, C, P, Q, K, X, fd, tl, ik⟩ := V
  obtain ⟨now, kept, aside, ik7, found, carried, T, Sm⟩ := M
  obtain ⟨hR, hik, hN, hB, hX, hF, m, hm, hm0, hT⟩ := Inv.to h
  subst hm0
  subst hik
  obtain ⟨v, R2, fd2, now2, found2, h1, h2, hR2, hF2⟩ := op_rain (R := R) (now := now) (fd := fd) (found := found) hR hF a1 a2 a3
  exact ⟨v, (R2, N, B, S, C, P, Q, K, X, fd2, nI m, ik), (now2, kept, aside, ik, found2, carried, T, Sm), Inv.of hR2 rfl hN hB hX hF2 hm hT, c_X6_rain l g _ _ _ _ _ _ _ _ _ _ _ _ _ _ _ _ _ _ _ _ _ _ _ _ _ _ _ _ _ _ _ _ _ _ _ _ _ _ _ _ _ a1 a2 a3 h1, c_X7_rain l g _ _ _ _ _ _ _ _ _ _ _ _ _ _ _ _ _ _ _ _ _ a1 a2 a3 h2⟩
theorem b_weather (l : Launch) (g : gG) (d : Nat → Nat) (V : Vt) (M : Mm) (h : Inv V M) (a1 : Int32) : ∃ (r : Int32) (V2 : Vt) (M2 : Mm), Inv V2 M2 ∧ Ct l yX6_weather wsX6_weather (rmm 5 115) g (wVd g d V) (wVd g d V2) [.ref (d 0), .int a1] (some (.int r)) ∧ Ct l yX7_weather wsX7_weather (rmm 8 177) g (wMd g d M) (wMd g d M2) [.ref (d 40), .int a1] (some (.int r)) := by
  obtain ⟨R, N, B, S, C, P, Q, K, X, fd, tl, ik⟩ := V
  obtain ⟨now, kept, aside, ik7, found, carried, T, Sm⟩ := M
  obtain ⟨hR, hik, hN, hB, hX, hF, m, hm, hm0, hT⟩ := Inv.to h
  subst hm0
  subst hik
  obtain ⟨v, R2, fd2, now2, found2, h1, h2, hR2, hF2⟩ := op_weather (R := R) (now := now) (fd := fd) (found := found) hR hF a1
  exact ⟨v, (R2, N, B, S, C, P, Q, K, X, fd2, nI m, ik), (now2, kept, aside, ik, found2, carried, T, Sm), Inv.of hR2 rfl hN hB hX hF2 hm hT, c_X6_weather l g _ _ _ _ _ _ _ _ _ _ _ _ _ _ _ _ _ _ _ _ _ _ _ _ _ _ _ _ _ _ _ _ _ _ _ _ _ _ _ _ _ a1 h1, c_X7_weather l g _ _ _ _ _ _ _ _ _ _ _ _ _ _ _ _ _ _ _ _ _ a1 h2⟩
theorem b_ahead (l : Launch) (g : gG) (d : Nat → Nat) (V : Vt) (M : Mm) (h : Inv V M) (a1 a2 a3 a4 : Int32) : ∃ (r : Int32) (V2 : Vt) (M2 : Mm), Inv V2 M2 ∧ Ct l yX6_ahead wsX6_ahead (rmm 6 137) g (wVd g d V) (wVd g d V2) [.ref (d 0), .int a1, .int a2, .int a3, .int a4] (some (.int r)) ∧ Ct l yX7_ahead wsX7_ahead (rmm 9 202) g (wMd g d M) (wMd g d M2) [.ref (d 40), .int a1, .int a2, .int a3, .int a4] (some (.int r)) := by
  obtain ⟨R, N, B, S, C, P, Q, K, X, fd, tl, ik⟩ := V
  obtain ⟨now, kept, aside, ik7, found, carried, T, Sm⟩ := M
  obtain ⟨hR, hik, hN, hB, hX, hF, m, hm, hm0, hT⟩ := Inv.to h
  subst hm0
  subst hik
  obtain ⟨v, B2, fd2, aside2, found2, h1, h2, hB2, hF2⟩ := op_ahead (R := R) (B := B) (now := now) (aside := aside) (fd := fd) (found := found) hR hB hF a1 a2 a3 a4
  exact ⟨v, (R, N, B2, S, C, P, Q, K, X, fd2, nI m, ik), (now, kept, aside2, ik, found2, carried, T, Sm), Inv.of hR rfl hN hB2 hX hF2 hm hT, c_X6_ahead l g _ _ _ _ _ _ _ _ _ _ _ _ _ _ _ _ _ _ _ _ _ _ _ _ _ _ _ _ _ _ _ _ _ _ _ _ _ _ _ _ _ a1 a2 a3 a4 h1, c_X7_ahead l g _ _ _ _ _ _ _ _ _ _ _ _ _ _ _ _ _ _ _ _ _ a1 a2 a3 a4 h2⟩
theorem b_when (l : Launch) (g : gG) (d : Nat → Nat) (V : Vt) (M : Mm) (h : Inv V M) (a1 a2 a3 : Int32) : ∃ (r : Int32) (V2 : Vt) (M2 : Mm), Inv V2 M2 ∧ Ct l yX6_when wsX6_when (rmm 5 112) g (wVd g d V) (wVd g d V2) [.ref (d 0), .int a1, .int a2, .int a3] (some (.int r)) ∧ Ct l yX7_when wsX7_when (rmm 8 177) g (wMd g d M) (wMd g d M2) [.ref (d 40), .int a1, .int a2, .int a3] (some (.int r)) := by
  obtain ⟨R, N, B, S, C, P, Q, K, X, fd, tl, ik⟩ := V
  obtain ⟨now, kept, aside, ik7, found, carried, T, Sm⟩ := M
  obtain ⟨hR, hik, hN, hB, hX, hF, m, hm, hm0, hT⟩ := Inv.to h
  subst hm0
  subst hik
  obtain ⟨v, B2, fd2, aside2, found2, h1, h2, hB2, hF2⟩ := op_when (R := R) (B := B) (now := now) (aside := aside) (fd := fd) (found := found) hR hB hF a1 a2 a3
  exact ⟨v, (R, N, B2, S, C, P, Q, K, X, fd2, nI m, ik), (now, kept, aside2, ik, found2, carried, T, Sm), Inv.of hR rfl hN hB2 hX hF2 hm hT, c_X6_when l g _ _ _ _ _ _ _ _ _ _ _ _ _ _ _ _ _ _ _ _ _ _ _ _ _ _ _ _ _ _ _ _ _ _ _ _ _ _ _ _ _ a1 a2 a3 h1, c_X7_when l g _ _ _ _ _ _ _ _ _ _ _ _ _ _ _ _ _ _ _ _ _ a1 a2 a3 h2⟩
theorem b_rains (l : Launch) (g : gG) (d : Nat → Nat) (V : Vt) (M : Mm) (h : Inv V M) (a1 : Int32) : ∃ (r : Int32) (V2 : Vt) (M2 : Mm), Inv V2 M2 ∧ Ct l yX6_rains wsX6_rains (rmm 6 148) g (wVd g d V) (wVd g d V2) [.ref (d 0), .int a1] (some (.int r)) ∧ Ct l yX7_rains wsX7_rains (rmm 10 224) g (wMd g d M) (wMd g d M2) [.ref (d 40), .int a1] (some (.int r)) := by
  obtain ⟨R, N, B, S, C, P, Q, K, X, fd, tl, ik⟩ := V
  obtain ⟨now, kept, aside, ik7, found, carried, T, Sm⟩ := M
  obtain ⟨hR, hik, hN, hB, hX, hF, m, hm, hm0, hT⟩ := Inv.to h
  subst hm0
  subst hik
  obtain ⟨v, B2, S2, fd2, aside2, found2, h1, h2, hB2, hF2⟩ := op_rains (R := R) (B := B) (S := S) (now := now) (aside := aside) (fd := fd) (found := found) hR hB hF a1
  exact ⟨v, (R, N, B2, S2, C, P, Q, K, X, fd2, nI m, ik), (now, kept, aside2, ik, found2, carried, T, Sm), Inv.of hR rfl hN hB2 hX hF2 hm hT, c_X6_rains l g _ _ _ _ _ _ _ _ _ _ _ _ _ _ _ _ _ _ _ _ _ _ _ _ _ _ _ _ _ _ _ _ _ _ _ _ _ _ _ _ _ a1 h1, c_X7_rains l g _ _ _ _ _ _ _ _ _ _ _ _ _ _ _ _ _ _ _ _ _ a1 h2⟩
theorem b_first (l : Launch) (g : gG) (d : Nat → Nat) (V : Vt) (M : Mm) (h : Inv V M) (a1 a2 : Int32) : ∃ (r : Int32) (V2 : Vt) (M2 : Mm), Inv V2 M2 ∧ Ct l yX6_first wsX6_first (rmm 6 148) g (wVd g d V) (wVd g d V2) [.ref (d 0), .int a1, .int a2] (some (.int r)) ∧ Ct l yX7_first wsX7_first (rmm 11 247) g (wMd g d M) (wMd g d M2) [.ref (d 40), .int a1, .int a2] (some (.int r)) := by
  obtain ⟨R, N, B, S, C, P, Q, K, X, fd, tl, ik⟩ := V
  obtain ⟨now, kept, aside, ik7, found, carried, T, Sm⟩ := M
  obtain ⟨hR, hik, hN, hB, hX, hF, m, hm, hm0, hT⟩ := Inv.to h
  subst hm0
  subst hik
  obtain ⟨v, B2, S2, fd2, aside2, found2, h1, h2, hB2, hF2⟩ := op_first (R := R) (B := B) (S := S) (now := now) (aside := aside) (fd := fd) (found := found) hR hB hF a1 a2
  exact ⟨v, (R, N, B2, S2, C, P, Q, K, X, fd2, nI m, ik), (now, kept, aside2, ik, found2, carried, T, Sm), Inv.of hR rfl hN hB2 hX hF2 hm hT, c_X6_first l g _ _ _ _ _ _ _ _ _ _ _ _ _ _ _ _ _ _ _ _ _ _ _ _ _ _ _ _ _ _ _ _ _ _ _ _ _ _ _ _ _ a1 a2 h1, c_X7_first l g _ _ _ _ _ _ _ _ _ _ _ _ _ _ _ _ _ _ _ _ _ a1 a2 h2⟩
theorem b_driest (l : Launch) (g : gG) (d : Nat → Nat) (V : Vt) (M : Mm) (h : Inv V M) (a1 : Int32) : ∃ (r : Int32) (V2 : Vt) (M2 : Mm), Inv V2 M2 ∧ Ct l yX6_driest wsX6_driest (rmm 6 148) g (wVd g d V) (wVd g d V2) [.ref (d 0), .int a1] (some (.int r)) ∧ Ct l yX7_driest wsX7_driest (rmm 10 224) g (wMd g d M) (wMd g d M2) [.ref (d 40), .int a1] (some (.int r)) := by
  obtain ⟨R, N, B, S, C, P, Q, K, X, fd, tl, ik⟩ := V
  obtain ⟨now, kept, aside, ik7, found, carried, T, Sm⟩ := M
  obtain ⟨hR, hik, hN, hB, hX, hF, m, hm, hm0, hT⟩ := Inv.to h
  subst hm0
  subst hik
  obtain ⟨v, B2, S2, fd2, aside2, found2, h1, h2, hB2, hF2⟩ := op_driest (R := R) (B := B) (S := S) (now := now) (aside := aside) (fd := fd) (found := found) hR hB hF a1
  exact ⟨v, (R, N, B2, S2, C, P, Q, K, X, fd2, nI m, ik), (now, kept, aside2, ik, found2, carried, T, Sm), Inv.of hR rfl hN hB2 hX hF2 hm hT, c_X6_driest l g _ _ _ _ _ _ _ _ _ _ _ _ _ _ _ _ _ _ _ _ _ _ _ _ _ _ _ _ _ _ _ _ _ _ _ _ _ _ _ _ _ a1 h1, c_X7_driest l g _ _ _ _ _ _ _ _ _ _ _ _ _ _ _ _ _ _ _ _ _ a1 h2⟩
theorem b_soonest (l : Launch) (g : gG) (d : Nat → Nat) (V : Vt) (M : Mm) (h : Inv V M) : ∃ (r : Int32) (V2 : Vt) (M2 : Mm), Inv V2 M2 ∧ Ct l yX6_soonest wsX6_soonest (rmm 6 148) g (wVd g d V) (wVd g d V2) [.ref (d 0)] (some (.int r)) ∧ Ct l yX7_soonest wsX7_soonest (rmm 11 247) g (wMd g d M) (wMd g d M2) [.ref (d 40)] (some (.int r)) := by
  obtain ⟨R, N, B, S, C, P, Q, K, X, fd, tl, ik⟩ := V
  obtain ⟨now, kept, aside, ik7, found, carried, T, Sm⟩ := M
  obtain ⟨hR, hik, hN, hB, hX, hF, m, hm, hm0, hT⟩ := Inv.to h
  subst hm0
  subst hik
  obtain ⟨v, B2, S2, fd2, aside2, found2, h1, h2, hB2, hF2⟩ := op_soonest (R := R) (B := B) (S := S) (now := now) (aside := aside) (fd := fd) (found := found) hR hB hF
  exact ⟨v, (R, N, B2, S2, C, P, Q, K, X, fd2, nI m, ik), (now, kept, aside2, ik, found2, carried, T, Sm), Inv.of hR rfl hN hB2 hX hF2 hm hT, c_X6_soonest l g _ _ _ _ _ _ _ _ _ _ _ _ _ _ _ _ _ _ _ _ _ _ _ _ _ _ _ _ _ _ _ _ _ _ _ _ _ _ _ _ _ h1, c_X7_soonest l g _ _ _ _ _ _ _ _ _ _ _ _ _ _ _ _ _ _ _ _ _ h2⟩
theorem b_needed (l : Launch) (g : gG) (d : Nat → Nat) (V : Vt) (M : Mm) (h : Inv V M) (a1 : Int32) : ∃ (r : Int32) (V2 : Vt) (M2 : Mm), Inv V2 M2 ∧ Ct l yX6_needed wsX6_needed (rmm 6 148) g (wVd g d V) (wVd g d V2) [.ref (d 0), .int a1] (some (.int r)) ∧ Ct l yX7_needed wsX7_needed (rmm 10 224) g (wMd g d M) (wMd g d M2) [.ref (d 40), .int a1] (some (.int r)) := by
  obtain ⟨R, N, B, S, C, P, Q, K, X, fd, tl, ik⟩ := V
  obtain ⟨now, kept, aside, ik7, found, carried, T, Sm⟩ := M
  obtain ⟨hR, hik, hN, hB, hX, hF, m, hm, hm0, hT⟩ := Inv.to h
  subst hm0
  subst hik
  obtain ⟨v, B2, S2, fd2, aside2, found2, h1, h2, hB2, hF2⟩ := op_needed (R := R) (B := B) (S := S) (now := now) (aside := aside) (fd := fd) (found := found) hR hB hF a1
  exact ⟨v, (R, N, B2, S2, C, P, Q, K, X, fd2, nI m, ik), (now, kept, aside2, ik, found2, carried, T, Sm), Inv.of hR rfl hN hB2 hX hF2 hm hT, c_X6_needed l g _ _ _ _ _ _ _ _ _ _ _ _ _ _ _ _ _ _ _ _ _ _ _ _ _ _ _ _ _ _ _ _ _ _ _ _ _ _ _ _ _ a1 h1, c_X7_needed l g _ _ _ _ _ _ _ _ _ _ _ _ _ _ _ _ _ _ _ _ _ a1 h2⟩
theorem b_buckets (l : Launch) (g : gG) (d : Nat → Nat) (V : Vt) (M : Mm) (h : Inv V M) : ∃ (r : Int32) (V2 : Vt) (M2 : Mm), Inv V2 M2 ∧ Ct l yX6_buckets wsX6_buckets (rmm 6 135) g (wVd g d V) (wVd g d V2) [.ref (d 0)] (some (.int r)) ∧ Ct l yX7_buckets wsX7_buckets (rmm 12 278) g (wMd g d M) (wMd g d M2) [.ref (d 40)] (some (.int r)) := by
  obtain ⟨R, N, B, S, C, P, Q, K, X, fd, tl, ik⟩ := V
  obtain ⟨now, kept, aside, ik7, found, carried, T, Sm⟩ := M
  obtain ⟨hR, hik, hN, hB, hX, hF, m, hm, hm0, hT⟩ := Inv.to h
  subst hm0
  subst hik
  obtain ⟨v, B2, C2, fd2, found2, carried2, h1, h2, hB2, hF2⟩ := op_buckets (R := R) (B := B) (C := C) (now := now) (fd := fd) (found := found) (carried := carried) hR hF
  exact ⟨v, (R, N, B2, S, C2, P, Q, K, X, fd2, nI m, ik), (now, kept, aside, ik, found2, carried2, T, Sm), Inv.of hR rfl hN hB2 hX hF2 hm hT, c_X6_buckets l g _ _ _ _ _ _ _ _ _ _ _ _ _ _ _ _ _ _ _ _ _ _ _ _ _ _ _ _ _ _ _ _ _ _ _ _ _ _ _ _ _ h1, c_X7_buckets l g _ _ _ _ _ _ _ _ _ _ _ _ _ _ _ _ _ _ _ _ _ h2⟩
theorem b_carry (l : Launch) (g : gG) (d : Nat → Nat) (V : Vt) (M : Mm) (h : Inv V M) (a1 : Int32) : ∃ (r : Int32) (V2 : Vt) (M2 : Mm), Inv V2 M2 ∧ Ct l yX6_carry wsX6_carry (rmm 6 135) g (wVd g d V) (wVd g d V2) [.ref (d 0), .int a1] (some (.int r)) ∧ Ct l yX7_carry wsX7_carry (rmm 12 278) g (wMd g d M) (wMd g d M2) [.ref (d 40), .int a1] (some (.int r)) := by
  obtain ⟨R, N, B, S, C, P, Q, K, X, fd, tl, ik⟩ := V
  obtain ⟨now, kept, aside, ik7, found, carried, T, Sm⟩ := M
  obtain ⟨hR, hik, hN, hB, hX, hF, m, hm, hm0, hT⟩ := Inv.to h
  subst hm0
  subst hik
  obtain ⟨v, B2, C2, fd2, found2, carried2, h1, h2, hB2, hF2⟩ := op_carry (R := R) (B := B) (C := C) (now := now) (fd := fd) (found := found) (carried := carried) hR hB hF a1
  exact ⟨v, (R, N, B2, S, C2, P, Q, K, X, fd2, nI m, ik), (now, kept, aside, ik, found2, carried2, T, Sm), Inv.of hR rfl hN hB2 hX hF2 hm hT, c_X6_carry l g _ _ _ _ _ _ _ _ _ _ _ _ _ _ _ _ _ _ _ _ _ _ _ _ _ _ _ _ _ _ _ _ _ _ _ _ _ _ _ _ _ a1 h1, c_X7_carry l g _ _ _ _ _ _ _ _ _ _ _ _ _ _ _ _ _ _ _ _ _ a1 h2⟩
theorem b_cloths (l : Launch) (g : gG) (d : Nat → Nat) (V : Vt) (M : Mm) (h : Inv V M) (a1 a2 a3 : Int32) : ∃ (r : Int32) (V2 : Vt) (M2 : Mm), Inv V2 M2 ∧ Ct l yX6_cloths wsX6_cloths (rmm 6 137) g (wVd g d V) (wVd g d V2) [.ref (d 0), .int a1, .int a2, .int a3] (some (.int r)) ∧ Ct l yX7_cloths wsX7_cloths (rmm 10 226) g (wMd g d M) (wMd g d M2) [.ref (d 40), .int a1, .int a2, .int a3] (some (.int r)) := by
  obtain ⟨R, N, B, S, C, P, Q, K, X, fd, tl, ik⟩ := V
  obtain ⟨now, kept, aside, ik7, found, carried, T, Sm⟩ := M
  obtain ⟨hR, hik, hN, hB, hX, hF, m, hm, hm0, hT⟩ := Inv.to h
  subst hm0
  subst hik
  obtain ⟨v, B2, fd2, aside2, found2, h1, h2, hB2, hF2⟩ := op_cloths (R := R) (B := B) (now := now) (aside := aside) (fd := fd) (found := found) hR hB hF a1 a2 a3
  exact ⟨v, (R, N, B2, S, C, P, Q, K, X, fd2, nI m, ik), (now, kept, aside2, ik, found2, carried, T, Sm), Inv.of hR rfl hN hB2 hX hF2 hm hT, c_X6_cloths l g _ _ _ _ _ _ _ _ _ _ _ _ _ _ _ _ _ _ _ _ _ _ _ _ _ _ _ _ _ _ _ _ _ _ _ _ _ _ _ _ _ a1 a2 a3 h1, c_X7_cloths l g _ _ _ _ _ _ _ _ _ _ _ _ _ _ _ _ _ _ _ _ _ a1 a2 a3 h2⟩
theorem b_guard (l : Launch) (g : gG) (d : Nat → Nat) (V : Vt) (M : Mm) (h : Inv V M) (a1 a2 a3 : Int32) : ∃ (r : Int32) (V2 : Vt) (M2 : Mm), Inv V2 M2 ∧ Ct l yX6_guard wsX6_guard (rmm 6 137) g (wVd g d V) (wVd g d V2) [.ref (d 0), .int a1, .int a2, .int a3] (some (.int r)) ∧ Ct l yX7_guard wsX7_guard (rmm 10 226) g (wMd g d M) (wMd g d M2) [.ref (d 40), .int a1, .int a2, .int a3] (some (.int r)) := by
  obtain ⟨R, N, B, S, C, P, Q, K, X, fd, tl, ik⟩ := V
  obtain ⟨now, kept, aside, ik7, found, carried, T, Sm⟩ := M
  obtain ⟨hR, hik, hN, hB, hX, hF, m, hm, hm0, hT⟩ := Inv.to h
  subst hm0
  subst hik
  obtain ⟨v, B2, fd2, aside2, found2, h1, h2, hB2, hF2⟩ := op_guard (R := R) (B := B) (now := now) (aside := aside) (fd := fd) (found := found) hR hB hF a1 a2 a3
  exact ⟨v, (R, N, B2, S, C, P, Q, K, X, fd2, nI m, ik), (now, kept, aside2, ik, found2, carried, T, Sm), Inv.of hR rfl hN hB2 hX hF2 hm hT, c_X6_guard l g _ _ _ _ _ _ _ _ _ _ _ _ _ _ _ _ _ _ _ _ _ _ _ _ _ _ _ _ _ _ _ _ _ _ _ _ _ _ _ _ _ a1 a2 a3 h1, c_X7_guard l g _ _ _ _ _ _ _ _ _ _ _ _ _ _ _ _ _ _ _ _ _ a1 a2 a3 h2⟩
theorem b_weak (l : Launch) (g : gG) (d : Nat → Nat) (V : Vt) (M : Mm) (h : Inv V M) : ∃ (r : Int32) (V2 : Vt) (M2 : Mm), Inv V2 M2 ∧ Ct l yX6_weak wsX6_weak (rmm 6 135) g (wVd g d V) (wVd g d V2) [.ref (d 0)] (some (.int r)) ∧ Ct l yX7_weak wsX7_weak (rmm 12 278) g (wMd g d M) (wMd g d M2) [.ref (d 40)] (some (.int r)) := by
  obtain ⟨R, N, B, S, C, P, Q, K, X, fd, tl, ik⟩ := V
  obtain ⟨now, kept, aside, ik7, found, carried, T, Sm⟩ := M
  obtain ⟨hR, hik, hN, hB, hX, hF, m, hm, hm0, hT⟩ := Inv.to h
  subst hm0
  subst hik
  obtain ⟨v, B2, C2, aside2, carried2, h1, h2, hB2⟩ := op_weak (R := R) (B := B) (C := C) (now := now) (aside := aside) (carried := carried) hR
  exact ⟨v, (R, N, B2, S, C2, P, Q, K, X, fd, nI m, ik), (now, kept, aside2, ik, found, carried2, T, Sm), Inv.of hR rfl hN hB2 hX hF hm hT, c_X6_weak l g _ _ _ _ _ _ _ _ _ _ _ _ _ _ _ _ _ _ _ _ _ _ _ _ _ _ _ _ _ _ _ _ _ _ _ _ _ _ _ _ _ h1, c_X7_weak l g _ _ _ _ _ _ _ _ _ _ _ _ _ _ _ _ _ _ _ _ _ h2⟩
theorem b_leaks (l : Launch) (g : gG) (d : Nat → Nat) (V : Vt) (M : Mm) (h : Inv V M) (a1 a2 a3 a4 a5 : Int32) : ∃ (r : Int32) (V2 : Vt) (M2 : Mm), Inv V2 M2 ∧ Ct l yX6_leaks wsX6_leaks (rmm 6 137) g (wVd g d V) (wVd g d V2) [.ref (d 0), .int a1, .int a2, .int a3, .int a4, .int a5] (some (.int r)) ∧ Ct l yX7_leaks wsX7_leaks (rmm 9 202) g (wMd g d M) (wMd g d M2) [.ref (d 40), .int a1, .int a2, .int a3, .int a4, .int a5] (some (.int r)) := by
  obtain ⟨R, N, B, S, C, P, Q, K, X, fd, tl, ik⟩ := V
  obtain ⟨now, kept, aside, ik7, found, carried, T, Sm⟩ := M
  obtain ⟨hR, hik, hN, hB, hX, hF, m, hm, hm0, hT⟩ := Inv.to h
  subst hm0
  subst hik
  obtain ⟨v, B2, fd2, aside2, found2, h1, h2, hB2, hF2⟩ := op_leaks (R := R) (B := B) (now := now) (aside := aside) (fd := fd) (found := found) hR hB hF a1 a2 a3 a4 a5
  exact ⟨v, (R, N, B2, S, C, P, Q, K, X, fd2, nI m, ik), (now, kept, aside2, ik, found2, carried, T, Sm), Inv.of hR rfl hN hB2 hX hF2 hm hT, c_X6_leaks l g _ _ _ _ _ _ _ _ _ _ _ _ _ _ _ _ _ _ _ _ _ _ _ _ _ _ _ _ _ _ _ _ _ _ _ _ _ _ _ _ _ a1 a2 a3 a4 a5 h1, c_X7_leaks l g _ _ _ _ _ _ _ _ _ _ _ _ _ _ _ _ _ _ _ _ _ a1 a2 a3 a4 a5 h2⟩
theorem b_sides (l : Launch) (g : gG) (d : Nat → Nat) (V : Vt) (M : Mm) (h : Inv V M) (a1 a2 : Int32) : ∃ (r : Int32) (V2 : Vt) (M2 : Mm), Inv V2 M2 ∧ Ct l yX6_sides wsX6_sides (rmm 6 137) g (wVd g d V) (wVd g d V2) [.ref (d 0), .int a1, .int a2] (some (.int r)) ∧ Ct l yX7_sides wsX7_sides (rmm 10 226) g (wMd g d M) (wMd g d M2) [.ref (d 40), .int a1, .int a2] (some (.int r)) := by
  obtain ⟨R, N, B, S, C, P, Q, K, X, fd, tl, ik⟩ := V
  obtain ⟨now, kept, aside, ik7, found, carried, T, Sm⟩ := M
  obtain ⟨hR, hik, hN, hB, hX, hF, m, hm, hm0, hT⟩ := Inv.to h
  subst hm0
  subst hik
  obtain ⟨v, B2, fd2, aside2, found2, h1, h2, hB2, hF2⟩ := op_sides (R := R) (B := B) (now := now) (aside := aside) (fd := fd) (found := found) hR hB hF a1 a2
  exact ⟨v, (R, N, B2, S, C, P, Q, K, X, fd2, nI m, ik), (now, kept, aside2, ik, found2, carried, T, Sm), Inv.of hR rfl hN hB2 hX hF2 hm hT, c_X6_sides l g _ _ _ _ _ _ _ _ _ _ _ _ _ _ _ _ _ _ _ _ _ _ _ _ _ _ _ _ _ _ _ _ _ _ _ _ _ _ _ _ _ a1 a2 h1, c_X7_sides l g _ _ _ _ _ _ _ _ _ _ _ _ _ _ _ _ _ _ _ _ _ a1 a2 h2⟩
theorem b_cat (l : Launch) (g : gG) (d : Nat → Nat) (V : Vt) (M : Mm) (h : Inv V M) : ∃ (r : Int32) (V2 : Vt) (M2 : Mm), Inv V2 M2 ∧ Ct l yX6_cat wsX6_cat (rmm 2 44) g (wVd g d V) (wVd g d V2) [.ref (d 0)] (some (.int r)) ∧ Ct l yX7_cat wsX7_cat (rmm 2 43) g (wMd g d M) (wMd g d M2) [.ref (d 40)] (some (.int r)) := by
  obtain ⟨R, N, B, S, C, P, Q, K, X, fd, tl, ik⟩ := V
  obtain ⟨now, kept, aside, ik7, found, carried, T, Sm⟩ := M
  obtain ⟨hR, hik, hN, hB, hX, hF, m, hm, hm0, hT⟩ := Inv.to h
  subst hm0
  subst hik
  obtain ⟨v, R2, fd2, now2, found2, h1, h2, hR2, hF2⟩ := op_cat (R := R) (now := now) (fd := fd) (found := found) hR hF
  exact ⟨v, (R2, N, B, S, C, P, Q, K, X, fd2, nI m, ik), (now2, kept, aside, ik, found2, carried, T, Sm), Inv.of hR2 rfl hN hB hX hF2 hm hT, c_X6_cat l g _ _ _ _ _ _ _ _ _ _ _ _ _ _ _ _ _ _ _ _ _ _ _ _ _ _ _ _ _ _ _ _ _ _ _ _ _ _ _ _ _ h1, c_X7_cat l g _ _ _ _ _ _ _ _ _ _ _ _ _ _ _ _ _ _ _ _ _ h2⟩
theorem b_seed (l : Launch) (g : gG) (d : Nat → Nat) (V : Vt) (M : Mm) (h : Inv V M) (a1 : Int32) : ∃ (r : Int32) (V2 : Vt) (M2 : Mm), Inv V2 M2 ∧ Ct l yX6_seed wsX6_seed (rmm 0 0) g (wVd g d V) (wVd g d V2) [.ref (d 0), .int a1] (some (.int r)) ∧ Ct l yX7_seed wsX7_seed (rmm 1 23) g (wMd g d M) (wMd g d M2) [.ref (d 40), .int a1] (some (.int r)) := by
  obtain ⟨R, N, B, S, C, P, Q, K, X, fd, tl, ik⟩ := V
  obtain ⟨now, kept, aside, ik7, found, carried, T, Sm⟩ := M
  obtain ⟨hR, hik, hN, hB, hX, hF, m, hm, hm0, hT⟩ := Inv.to h
  subst hm0
  subst hik
  obtain ⟨v, R2, now2, h1, h2, hR2⟩ := op_seed (R := R) (now := now) hR a1
  exact ⟨v, (R2, N, B, S, C, P, Q, K, X, fd, nI m, ik), (now2, kept, aside, ik, found, carried, T, Sm), Inv.of hR2 rfl hN hB hX hF hm hT, c_X6_seed l g _ _ _ _ _ _ _ _ _ _ _ _ _ _ _ _ _ _ _ _ _ _ _ _ _ _ _ _ _ _ _ _ _ _ _ _ _ _ _ _ _ a1 h1, c_X7_seed l g _ _ _ _ _ _ _ _ _ _ _ _ _ _ _ _ _ _ _ _ _ a1 h2⟩
theorem b_feed (l : Launch) (g : gG) (d : Nat → Nat) (V : Vt) (M : Mm) (h : Inv V M) (a1 a2 : Int32) : ∃ (r : Int32) (V2 : Vt) (M2 : Mm), Inv V2 M2 ∧ Ct l yX6_feed wsX6_feed (rmm 2 44) g (wVd g d V) (wVd g d V2) [.ref (d 0), .int a1, .int a2] (some (.int r)) ∧ Ct l yX7_feed wsX7_feed (rmm 1 22) g (wMd g d M) (wMd g d M2) [.ref (d 40), .int a1, .int a2] (some (.int r)) := by
  obtain ⟨R, N, B, S, C, P, Q, K, X, fd, tl, ik⟩ := V
  obtain ⟨now, kept, aside, ik7, found, carried, T, Sm⟩ := M
  obtain ⟨hR, hik, hN, hB, hX, hF, m, hm, hm0, hT⟩ := Inv.to h
  subst hm0
  subst hik
  obtain ⟨v, P2, fd2, m2, found2, T2, h1, h2, hm2, hT2, hF2⟩ := op_feed (m := m) (P := P) (fd := fd) (found := found) (T := T) hm hT hF a1 a2
  exact ⟨v, (R, N, B, S, C, P2, Q, K, X, fd2, nI m2, ik), (now, kept, aside, ik, found2, carried, T2, Sm), Inv.of hR rfl hN hB hX hF2 hm2 hT2, c_X6_feed l g _ _ _ _ _ _ _ _ _ _ _ _ _ _ _ _ _ _ _ _ _ _ _ _ _ _ _ _ _ _ _ _ _ _ _ _ _ _ _ _ _ a1 a2 h1, c_X7_feed l g _ _ _ _ _ _ _ _ _ _ _ _ _ _ _ _ _ _ _ _ _ a1 a2 h2⟩
theorem b_wipe (l : Launch) (g : gG) (d : Nat → Nat) (V : Vt) (M : Mm) (h : Inv V M) : ∃ (r : Int32) (V2 : Vt) (M2 : Mm), Inv V2 M2 ∧ Ct l yX6_wipe wsX6_wipe (rmm 0 0) g (wVd g d V) (wVd g d V2) [.ref (d 0)] (some (.int r)) ∧ Ct l yX7_wipe wsX7_wipe (rmm 0 0) g (wMd g d M) (wMd g d M2) [.ref (d 40)] (some (.int r)) := by
  obtain ⟨R, N, B, S, C, P, Q, K, X, fd, tl, ik⟩ := V
  obtain ⟨now, kept, aside, ik7, found, carried, T, Sm⟩ := M
  obtain ⟨hR, hik, hN, hB, hX, hF, m, hm, hm0, hT⟩ := Inv.to h
  subst hm0
  subst hik
  obtain ⟨v, T2, h1, h2, hT2⟩ := op_wipe (m := m) (P := P) (T := T) hT
  exact ⟨v, (R, N, B, S, C, P, Q, K, X, fd, nI 0, ik), (now, kept, aside, ik, found, carried, T2, Sm), Inv.of hR rfl hN hB hX hF (Nat.zero_le 120) hT2, c_X6_wipe l g _ _ _ _ _ _ _ _ _ _ _ _ _ _ _ _ _ _ _ _ _ _ _ _ _ _ _ _ _ _ _ _ _ _ _ _ _ _ _ _ _ h1, c_X7_wipe l g _ _ _ _ _ _ _ _ _ _ _ _ _ _ _ _ _ _ _ _ _ h2⟩
theorem b_text (l : Launch) (g : gG) (d : Nat → Nat) (V : Vt) (M : Mm) (h : Inv V M) : ∃ (r : Int32) (V2 : Vt) (M2 : Mm), Inv V2 M2 ∧ Ct l yX6_text wsX6_text (rmm 11 332) g (wVd g d V) (wVd g d V2) [.ref (d 0)] (some (.int r)) ∧ Ct l yX7_text wsX7_text (rmm 10 317) g (wMd g d M) (wMd g d M2) [.ref (d 40)] (some (.int r)) := by
  obtain ⟨R, N, B, S, C, P, Q, K, X, fd, tl, ik⟩ := V
  obtain ⟨now, kept, aside, ik7, found, carried, T, Sm⟩ := M
  obtain ⟨hR, hik, hN, hB, hX, hF, m, hm, hm0, hT⟩ := Inv.to h
  subst hm0
  subst hik
  obtain ⟨v, R2, B2, Q2, K2, now2, T2, h1, h2, hR2, hB2, hT2⟩ := op_text (R := R) (B := B) (P := P) (now := now) (Q := Q) (K := K) (m := m) (T := T) hR hm hT
  exact ⟨v, (R2, N, B2, S, C, P, Q2, K2, X, fd, nI 0, ik), (now2, kept, aside, ik, found, carried, T2, Sm), Inv.of hR2 rfl hN hB2 hX hF (Nat.zero_le 120) hT2, c_X6_text l g _ _ _ _ _ _ _ _ _ _ _ _ _ _ _ _ _ _ _ _ _ _ _ _ _ _ _ _ _ _ _ _ _ _ _ _ _ _ _ _ _ h1, c_X7_text l g _ _ _ _ _ _ _ _ _ _ _ _ _ _ _ _ _ _ _ _ _ h2⟩
theorem b_hold (l : Launch) (g : gG) (d : Nat → Nat) (V : Vt) (M : Mm) (h : Inv V M) (a1 a2 : Int32) : ∃ (r : Int32) (V2 : Vt) (M2 : Mm), Inv V2 M2 ∧ Ct l yX6_hold wsX6_hold (rmm 2 44) g (wVd g d V) (wVd g d V2) [.ref (d 0), .int a1, .int a2] (some (.int r)) ∧ Ct l yX7_hold wsX7_hold (rmm 2 43) g (wMd g d M) (wMd g d M2) [.ref (d 40), .int a1, .int a2] (some (.int r)) := by
  obtain ⟨R, N, B, S, C, P, Q, K, X, fd, tl, ik⟩ := V
  obtain ⟨now, kept, aside, ik7, found, carried, T, Sm⟩ := M
  obtain ⟨hR, hik, hN, hB, hX, hF, m, hm, hm0, hT⟩ := Inv.to h
  subst hm0
  subst hik
  obtain ⟨v, R2, fd2, now2, found2, h1, h2, hR2, hF2⟩ := op_hold (R := R) (now := now) (fd := fd) (found := found) hR hF a1 a2
  exact ⟨v, (R2, N, B, S, C, P, Q, K, X, fd2, nI m, ik), (now2, kept, aside, ik, found2, carried, T, Sm), Inv.of hR2 rfl hN hB hX hF2 hm hT, c_X6_hold l g _ _ _ _ _ _ _ _ _ _ _ _ _ _ _ _ _ _ _ _ _ _ _ _ _ _ _ _ _ _ _ _ _ _ _ _ _ _ _ _ _ a1 a2 h1, c_X7_hold l g _ _ _ _ _ _ _ _ _ _ _ _ _ _ _ _ _ _ _ _ _ a1 a2 h2⟩
theorem b_as (l : Launch) (g : gG) (d : Nat → Nat) (V : Vt) (M : Mm) (h : Inv V M) (a1 a2 : Int32) : ∃ (r : Int32) (V2 : Vt) (M2 : Mm), Inv V2 M2 ∧ Ct l yX6_as wsX6_as (rmm 2 46) g (wVd g d V) (wVd g d V2) [.ref (d 0), .int a1, .int a2] (some (.int r)) ∧ Ct l yX7_as wsX7_as (rmm 3 66) g (wMd g d M) (wMd g d M2) [.ref (d 40), .int a1, .int a2] (some (.int r)) := by
  obtain ⟨R, N, B, S, C, P, Q, K, X, fd, tl, ik⟩ := V
  obtain ⟨now, kept, aside, ik7, found, carried, T, Sm⟩ := M
  obtain ⟨hR, hik, hN, hB, hX, hF, m, hm, hm0, hT⟩ := Inv.to h
  subst hm0
  subst hik
  obtain ⟨v, fd2, found2, h1, h2, hF2⟩ := op_as (R := R) (now := now) (fd := fd) (found := found) hR hF a1 a2
  exact ⟨v, (R, N, B, S, C, P, Q, K, X, fd2, nI m, ik), (now, kept, aside, ik, found2, carried, T, Sm), Inv.of hR rfl hN hB hX hF2 hm hT, c_X6_as l g _ _ _ _ _ _ _ _ _ _ _ _ _ _ _ _ _ _ _ _ _ _ _ _ _ _ _ _ _ _ _ _ _ _ _ _ _ _ _ _ _ a1 a2 h1, c_X7_as l g _ _ _ _ _ _ _ _ _ _ _ _ _ _ _ _ _ _ _ _ _ a1 a2 h2⟩
theorem b_sheet (l : Launch) (g : gG) (d : Nat → Nat) (V : Vt) (M : Mm) (h : Inv V M) (a1 a2 a3 : Int32) : ∃ (r : Int32) (V2 : Vt) (M2 : Mm), Inv V2 M2 ∧ Ct l yX6_sheet wsX6_sheet (rmm 2 60) g (wVd g d V) (wVd g d V2) [.ref (d 0), .int a1, .int a2, .int a3] (some (.int r)) ∧ Ct l yX7_sheet wsX7_sheet (rmm 2 42) g (wMd g d M) (wMd g d M2) [.ref (d 40), .int a1, .int a2, .int a3] (some (.int r)) := by
  obtain ⟨R, N, B, S, C, P, Q, K, X, fd, tl, ik⟩ := V
  obtain ⟨now, kept, aside, ik7, found, carried, T, Sm⟩ := M
  obtain ⟨hR, hik, hN, hB, hX, hF, m, hm, hm0, hT⟩ := Inv.to h
  subst hm0
  subst hik
  obtain ⟨v, X2, fd2, found2, Sm2, h1, h2, hX2, hF2⟩ := op_sheet (X := X) (S := Sm) (fd := fd) (found := found) hX hF a1 a2 a3
  exact ⟨v, (R, N, B, S, C, P, Q, K, X2, fd2, nI m, ik), (now, kept, aside, ik, found2, carried, T, Sm2), Inv.of hR rfl hN hB hX2 hF2 hm hT, c_X6_sheet l g _ _ _ _ _ _ _ _ _ _ _ _ _ _ _ _ _ _ _ _ _ _ _ _ _ _ _ _ _ _ _ _ _ _ _ _ _ _ _ _ _ a1 a2 a3 h1, c_X7_sheet l g _ _ _ _ _ _ _ _ _ _ _ _ _ _ _ _ _ _ _ _ _ a1 a2 a3 h2⟩
theorem b_write (l : Launch) (g : gG) (d : Nat → Nat) (V : Vt) (M : Mm) (h : Inv V M) (a1 a2 a3 : Int32) : ∃ (r : Int32) (V2 : Vt) (M2 : Mm), Inv V2 M2 ∧ Ct l yX6_write wsX6_write (rmm 2 60) g (wVd g d V) (wVd g d V2) [.ref (d 0), .int a1, .int a2, .int a3] (some (.int r)) ∧ Ct l yX7_write wsX7_write (rmm 2 42) g (wMd g d M) (wMd g d M2) [.ref (d 40), .int a1, .int a2, .int a3] (some (.int r)) := by
  obtain ⟨R, N, B, S, C, P, Q, K, X, fd, tl, ik⟩ := V
  obtain ⟨now, kept, aside, ik7, found, carried, T, Sm⟩ := M
  obtain ⟨hR, hik, hN, hB, hX, hF, m, hm, hm0, hT⟩ := Inv.to h
  subst hm0
  subst hik
  obtain ⟨v, X2, fd2, found2, Sm2, h1, h2, hX2, hF2⟩ := op_write (X := X) (S := Sm) (fd := fd) (found := found) hX hF a1 a2 a3
  exact ⟨v, (R, N, B, S, C, P, Q, K, X2, fd2, nI m, ik), (now, kept, aside, ik, found2, carried, T, Sm2), Inv.of hR rfl hN hB hX2 hF2 hm hT, c_X6_write l g _ _ _ _ _ _ _ _ _ _ _ _ _ _ _ _ _ _ _ _ _ _ _ _ _ _ _ _ _ _ _ _ _ _ _ _ _ _ _ _ _ a1 a2 a3 h1, c_X7_write l g _ _ _ _ _ _ _ _ _ _ _ _ _ _ _ _ _ _ _ _ _ a1 a2 a3 h2⟩
theorem b_copy (l : Launch) (g : gG) (d : Nat → Nat) (V : Vt) (M : Mm) (h : Inv V M) (a1 a2 a3 a4 a5 : Int32) : ∃ (r : Int32) (V2 : Vt) (M2 : Mm), Inv V2 M2 ∧ Ct l yX6_copy wsX6_copy (rmm 2 63) g (wVd g d V) (wVd g d V2) [.ref (d 0), .int a1, .int a2, .int a3, .int a4, .int a5] (some (.int r)) ∧ Ct l yX7_copy wsX7_copy (rmm 2 42) g (wMd g d M) (wMd g d M2) [.ref (d 40), .int a1, .int a2, .int a3, .int a4, .int a5] (some (.int r)) := by
  obtain ⟨R, N, B, S, C, P, Q, K, X, fd, tl, ik⟩ := V
  obtain ⟨now, kept, aside, ik7, found, carried, T, Sm⟩ := M
  obtain ⟨hR, hik, hN, hB, hX, hF, m, hm, hm0, hT⟩ := Inv.to h
  subst hm0
  subst hik
  obtain ⟨v, X2, fd2, found2, Sm2, h1, h2, hX2, hF2⟩ := op_copy (X := X) (S := Sm) (fd := fd) (found := found) hX hF a1 a2 a3 a4 a5
  exact ⟨v, (R, N, B, S, C, P, Q, K, X2, fd2, nI m, ik), (now, kept, aside, ik, found2, carried, T, Sm2), Inv.of hR rfl hN hB hX2 hF2 hm hT, c_X6_copy l g _ _ _ _ _ _ _ _ _ _ _ _ _ _ _ _ _ _ _ _ _ _ _ _ _ _ _ _ _ _ _ _ _ _ _ _ _ _ _ _ _ a1 a2 a3 a4 a5 h1, c_X7_copy l g _ _ _ _ _ _ _ _ _ _ _ _ _ _ _ _ _ _ _ _ _ a1 a2 a3 a4 a5 h2⟩
theorem b_load (l : Launch) (g : gG) (d : Nat → Nat) (V : Vt) (M : Mm) (h : Inv V M) (a1 : Int32) : ∃ (r : Int32) (V2 : Vt) (M2 : Mm), Inv V2 M2 ∧ Ct l yX6_load wsX6_load (rmm 2 65) g (wVd g d V) (wVd g d V2) [.ref (d 0), .int a1] (some (.int r)) ∧ Ct l yX7_load wsX7_load (rmm 2 43) g (wMd g d M) (wMd g d M2) [.ref (d 40), .int a1] (some (.int r)) := by
  obtain ⟨R, N, B, S, C, P, Q, K, X, fd, tl, ik⟩ := V
  obtain ⟨now, kept, aside, ik7, found, carried, T, Sm⟩ := M
  obtain ⟨hR, hik, hN, hB, hX, hF, m, hm, hm0, hT⟩ := Inv.to h
  subst hm0
  subst hik
  obtain ⟨v, R2, fd2, now2, found2, h1, h2, hR2, hF2⟩ := op_load (R := R) (X := X) (S := Sm) (now := now) (fd := fd) (found := found) hR hX hF a1
  exact ⟨v, (R2, N, B, S, C, P, Q, K, X, fd2, nI m, ik), (now2, kept, aside, ik, found2, carried, T, Sm), Inv.of hR2 rfl hN hB hX hF2 hm hT, c_X6_load l g _ _ _ _ _ _ _ _ _ _ _ _ _ _ _ _ _ _ _ _ _ _ _ _ _ _ _ _ _ _ _ _ _ _ _ _ _ _ _ _ _ a1 h1, c_X7_load l g _ _ _ _ _ _ _ _ _ _ _ _ _ _ _ _ _ _ _ _ _ a1 h2⟩
theorem b_rust (l : Launch) (g : gG) (d : Nat → Nat) (V : Vt) (M : Mm) (h : Inv V M) (a1 a2 : Int32) : ∃ (r : Int32) (V2 : Vt) (M2 : Mm), Inv V2 M2 ∧ Ct l yX6_rust wsX6_rust (rmm 5 124) g (wVd g d V) (wVd g d V2) [.ref (d 0), .int a1, .int a2] (some (.int r)) ∧ Ct l yX7_rust wsX7_rust (rmm 9 202) g (wMd g d M) (wMd g d M2) [.ref (d 40), .int a1, .int a2] (some (.int r)) := by
  obtain ⟨R, N, B, S, C, P, Q, K, X, fd, tl, ik⟩ := V
  obtain ⟨now, kept, aside, ik7, found, carried, T, Sm⟩ := M
  obtain ⟨hR, hik, hN, hB, hX, hF, m, hm, hm0, hT⟩ := Inv.to h
  subst hm0
  subst hik
  obtain ⟨v, B2, S2, fd2, aside2, found2, h1, h2, hB2, hF2⟩ := op_rust (R := R) (B := B) (V := S) (X := X) (S := Sm) (now := now) (aside := aside) (fd := fd) (found := found) hR hB hX hF a1 a2
  exact ⟨v, (R, N, B2, S2, C, P, Q, K, X, fd2, nI m, ik), (now, kept, aside2, ik, found2, carried, T, Sm), Inv.of hR rfl hN hB2 hX hF2 hm hT, c_X6_rust l g _ _ _ _ _ _ _ _ _ _ _ _ _ _ _ _ _ _ _ _ _ _ _ _ _ _ _ _ _ _ _ _ _ _ _ _ _ _ _ _ _ a1 a2 h1, c_X7_rust l g _ _ _ _ _ _ _ _ _ _ _ _ _ _ _ _ _ _ _ _ _ a1 a2 h2⟩
theorem b_judge (l : Launch) (g : gG) (d : Nat → Nat) (V : Vt) (M : Mm) (h : Inv V M) (a1 : Int32) : ∃ (r : Int32) (V2 : Vt) (M2 : Mm), Inv V2 M2 ∧ Ct l yX6_judge wsX6_judge (rmm 5 112) g (wVd g d V) (wVd g d V2) [.ref (d 0), .int a1] (some (.int r)) ∧ Ct l yX7_judge wsX7_judge (rmm 8 177) g (wMd g d M) (wMd g d M2) [.ref (d 40), .int a1] (some (.int r)) := by
  obtain ⟨R, N, B, S, C, P, Q, K, X, fd, tl, ik⟩ := V
  obtain ⟨now, kept, aside, ik7, found, carried, T, Sm⟩ := M
  obtain ⟨hR, hik, hN, hB, hX, hF, m, hm, hm0, hT⟩ := Inv.to h
  subst hm0
  subst hik
  obtain ⟨v, B2, fd2, aside2, found2, h1, h2, hB2, hF2⟩ := op_judge (R := R) (B := B) (X := X) (S := Sm) (now := now) (aside := aside) (fd := fd) (found := found) hR hB hX hF a1
  exact ⟨v, (R, N, B2, S, C, P, Q, K, X, fd2, nI m, ik), (now, kept, aside2, ik, found2, carried, T, Sm), Inv.of hR rfl hN hB2 hX hF2 hm hT, c_X6_judge l g _ _ _ _ _ _ _ _ _ _ _ _ _ _ _ _ _ _ _ _ _ _ _ _ _ _ _ _ _ _ _ _ _ _ _ _ _ _ _ _ _ a1 h1, c_X7_judge l g _ _ _ _ _ _ _ _ _ _ _ _ _ _ _ _ _ _ _ _ _ a1 h2⟩
theorem b_image (l : Launch) (g : gG) (d : Nat → Nat) (V : Vt) (M : Mm) (h : Inv V M) : ∃ (r : Int32) (V2 : Vt) (M2 : Mm), Inv V2 M2 ∧ Ct l yX6_image wsX6_image (rmm 3 102) g (wVd g d V) (wVd g d V2) [.ref (d 0)] (some (.int r)) ∧ Ct l yX7_image wsX7_image (rmm 1 22) g (wMd g d M) (wMd g d M2) [.ref (d 40)] (some (.int r)) := by
  obtain ⟨R, N, B, S, C, P, Q, K, X, fd, tl, ik⟩ := V
  obtain ⟨now, kept, aside, ik7, found, carried, T, Sm⟩ := M
  obtain ⟨hR, hik, hN, hB, hX, hF, m, hm, hm0, hT⟩ := Inv.to h
  subst hm0
  subst hik
  obtain ⟨h1, h2⟩ := op_image (R := R) (now := now) hR N kept ik
  exact ⟨1, (R, R, B, S, C, P, Q, K, X, fd, nI m, 1), (now, now, aside, 1, found, carried, T, Sm), Inv.of hR rfl (fun _ => hR) hB hX hF hm hT, c_X6_image l g _ _ _ _ _ _ _ _ _ _ _ _ _ _ _ _ _ _ _ _ _ _ _ _ _ _ _ _ _ _ _ _ _ _ _ _ _ _ _ _ _ h1, c_X7_image l g _ _ _ _ _ _ _ _ _ _ _ _ _ _ _ _ _ _ _ _ _ h2⟩
theorem b_undo (l : Launch) (g : gG) (d : Nat → Nat) (V : Vt) (M : Mm) (h : Inv V M) : ∃ (r : Int32) (V2 : Vt) (M2 : Mm), Inv V2 M2 ∧ Ct l yX6_undo wsX6_undo (rmm 3 102) g (wVd g d V) (wVd g d V2) [.ref (d 0)] (some (.int r)) ∧ Ct l yX7_undo wsX7_undo (rmm 1 22) g (wMd g d M) (wMd g d M2) [.ref (d 40)] (some (.int r)) := by
  obtain ⟨R, N, B, S, C, P, Q, K, X, fd, tl, ik⟩ := V
  obtain ⟨now, kept, aside, ik7, found, carried, T, Sm⟩ := M
  obtain ⟨hR, hik, hN, hB, hX, hF, m, hm, hm0, hT⟩ := Inv.to h
  subst hm0
  subst hik
  obtain ⟨v, R2, fd2, now2, found2, h1, h2, hR2, hF2⟩ := op_undo (R := R) (N := N) (now := now) (kept := kept) (fd := fd) (found := found) (ik := ik) hR hN hF
  exact ⟨v, (R2, N, B, S, C, P, Q, K, X, fd2, nI m, ik), (now2, kept, aside, ik, found2, carried, T, Sm), Inv.of hR2 rfl hN hB hX hF2 hm hT, c_X6_undo l g _ _ _ _ _ _ _ _ _ _ _ _ _ _ _ _ _ _ _ _ _ _ _ _ _ _ _ _ _ _ _ _ _ _ _ _ _ _ _ _ _ h1, c_X7_undo l g _ _ _ _ _ _ _ _ _ _ _ _ _ _ _ _ _ _ _ _ _ h2⟩
theorem b_tear (l : Launch) (g : gG) (d : Nat → Nat) (V : Vt) (M : Mm) (h : Inv V M) : ∃ (r : Int32) (V2 : Vt) (M2 : Mm), Inv V2 M2 ∧ Ct l yX6_tear wsX6_tear (rmm 0 0) g (wVd g d V) (wVd g d V2) [.ref (d 0)] (some (.int r)) ∧ Ct l yX7_tear wsX7_tear (rmm 0 0) g (wMd g d M) (wMd g d M2) [.ref (d 40)] (some (.int r)) := by
  obtain ⟨R, N, B, S, C, P, Q, K, X, fd, tl, ik⟩ := V
  obtain ⟨now, kept, aside, ik7, found, carried, T, Sm⟩ := M
  obtain ⟨hR, hik, hN, hB, hX, hF, m, hm, hm0, hT⟩ := Inv.to h
  subst hm0
  subst hik
  obtain ⟨v, h1, h2⟩ := op_tear ik
  exact ⟨v, (R, N, B, S, C, P, Q, K, X, fd, nI m, 0), (now, kept, aside, 0, found, carried, T, Sm), Inv.of hR rfl (fun h => absurd rfl h) hB hX hF hm hT, c_X6_tear l g _ _ _ _ _ _ _ _ _ _ _ _ _ _ _ _ _ _ _ _ _ _ _ _ _ _ _ _ _ _ _ _ _ _ _ _ _ _ _ _ _ h1, c_X7_tear l g _ _ _ _ _ _ _ _ _ _ _ _ _ _ _ _ _ _ _ _ _ h2⟩
theorem b_count (l : Launch) (g : gG) (d : Nat → Nat) (V : Vt) (M : Mm) (h : Inv V M) (a1 : Int32) : ∃ (r : Int32) (V2 : Vt) (M2 : Mm), Inv V2 M2 ∧ Ct l yX6_count wsX6_count (rmm 2 45) g (wVd g d V) (wVd g d V2) [.ref (d 0), .int a1] (some (.int r)) ∧ Ct l yX7_count wsX7_count (rmm 3 65) g (wMd g d M) (wMd g d M2) [.ref (d 40), .int a1] (some (.int r)) := by
  obtain ⟨R, N, B, S, C, P, Q, K, X, fd, tl, ik⟩ := V
  obtain ⟨now, kept, aside, ik7, found, carried, T, Sm⟩ := M
  obtain ⟨hR, hik, hN, hB, hX, hF, m, hm, hm0, hT⟩ := Inv.to h
  subst hm0
  subst hik
  obtain ⟨v, fd2, found2, h1, h2, hF2⟩ := op_count (R := R) (now := now) (fd := fd) (found := found) (tl := nI m) (T := T) hR hF hT.1 a1
  exact ⟨v, (R, N, B, S, C, P, Q, K, X, fd2, nI m, ik), (now, kept, aside, ik, found2, carried, T, Sm), Inv.of hR rfl hN hB hX hF2 hm hT, c_X6_count l g _ _ _ _ _ _ _ _ _ _ _ _ _ _ _ _ _ _ _ _ _ _ _ _ _ _ _ _ _ _ _ _ _ _ _ _ _ _ _ _ _ a1 h1, c_X7_count l g _ _ _ _ _ _ _ _ _ _ _ _ _ _ _ _ _ _ _ _ _ a1 h2⟩
theorem b_status (l : Launch) (g : gG) (d : Nat → Nat) (V : Vt) (M : Mm) (h : Inv V M) (a1 : Int32) : ∃ (r : Int32) (V2 : Vt) (M2 : Mm), Inv V2 M2 ∧ Ct l yX6_status wsX6_status (rmm 2 44) g (wVd g d V) (wVd g d V2) [.ref (d 0), .int a1] (some (.int r)) ∧ Ct l yX7_status wsX7_status (rmm 1 22) g (wMd g d M) (wMd g d M2) [.ref (d 40), .int a1] (some (.int r)) := by
  obtain ⟨R, N, B, S, C, P, Q, K, X, fd, tl, ik⟩ := V
  obtain ⟨now, kept, aside, ik7, found, carried, T, Sm⟩ := M
  obtain ⟨hR, hik, hN, hB, hX, hF, m, hm, hm0, hT⟩ := Inv.to h
  subst hm0
  subst hik
  obtain ⟨v, fd2, found2, h1, h2, hF2⟩ := op_status (fd := fd) (found := found) hF a1
  exact ⟨v, (R, N, B, S, C, P, Q, K, X, fd2, nI m, ik), (now, kept, aside, ik, found2, carried, T, Sm), Inv.of hR rfl hN hB hX hF2 hm hT, c_X6_status l g _ _ _ _ _ _ _ _ _ _ _ _ _ _ _ _ _ _ _ _ _ _ _ _ _ _ _ _ _ _ _ _ _ _ _ _ _ _ _ _ _ a1 h1, c_X7_status l g _ _ _ _ _ _ _ _ _ _ _ _ _ _ _ _ _ _ _ _ _ a1 h2⟩
