-- THE REFERENCE'S STATE, in maps
def MS : Type := ((Nat → Nat) × (Nat → Nat) × (Nat → Int64) × (Nat → Int64) × (Nat → Nat) × (Nat → Nat)) × ((Nat → Int64) × (PT) × (Nat → Nat) × (Nat → Nat) × (Nat → Nat)) × ((Nat → Int64) × (Nat → Nat)) × ((Nat) × (Nat) × (Nat) × (Nat) × (Nat) × (Nat) × (Nat) × (Nat) × (Int64) × (Int32) × (Nat) × (Nat)) × ((Nat → Int32) × (Nat → Int32) × (Nat → Int32) × (Nat → Int32)) × ((Nat → Int32) × (Nat → Int32) × (Nat → Int32) × (Nat → Int32) × (Int32))
def MS.kd (m : MS) : Nat → Nat := m.1.1
def MS.rt (m : MS) : Nat → Nat := m.1.2.1
def MS.pu (m : MS) : Nat → Int64 := m.1.2.2.1
def MS.st (m : MS) : Nat → Int64 := m.1.2.2.2.1
def MS.pl (m : MS) : Nat → Nat := m.1.2.2.2.2.1
def MS.nu (m : MS) : Nat → Nat := m.1.2.2.2.2.2
def MS.ky (m : MS) : Nat → Int64 := m.2.1.1
def MS.P (m : MS) : PT := m.2.1.2.1
def MS.cs (m : MS) : Nat → Nat := m.2.1.2.2.1
def MS.fV (m : MS) : Nat → Nat := m.2.1.2.2.2.1
def MS.lV (m : MS) : Nat → Nat := m.2.1.2.2.2.2
def MS.it (m : MS) : Nat → Int64 := m.2.2.1.1
def MS.nx (m : MS) : Nat → Nat := m.2.2.1.2
def MS.K (m : MS) : Nat := m.2.2.2.1.1
def MS.E (m : MS) : Nat := m.2.2.2.1.2.1
def MS.nm (m : MS) : Nat := m.2.2.2.1.2.2.1
def MS.fn (m : MS) : Nat := m.2.2.2.1.2.2.2.1
def MS.im (m : MS) : Nat := m.2.2.2.1.2.2.2.2.1
def MS.fi (m : MS) : Nat := m.2.2.2.1.2.2.2.2.2.1
def MS.se (m : MS) : Nat := m.2.2.2.1.2.2.2.2.2.2.1
def MS.sp (m : MS) : Nat := m.2.2.2.1.2.2.2.2.2.2.2.1
def MS.fk (m : MS) : Int64 := m.2.2.2.1.2.2.2.2.2.2.2.2.1
def MS.fv (m : MS) : Int32 := m.2.2.2.1.2.2.2.2.2.2.2.2.2.1
def MS.N (m : MS) : Nat := m.2.2.2.1.2.2.2.2.2.2.2.2.2.2.1
def MS.bs (m : MS) : Nat := m.2.2.2.1.2.2.2.2.2.2.2.2.2.2.2
def MS.rO (m : MS) : Nat → Int32 := m.2.2.2.2.1.1
def MS.rP (m : MS) : Nat → Int32 := m.2.2.2.2.1.2.1
def MS.rT (m : MS) : Nat → Int32 := m.2.2.2.2.1.2.2.1
def MS.rQ (m : MS) : Nat → Int32 := m.2.2.2.2.1.2.2.2
def MS.O (m : MS) : Nat → Int32 := m.2.2.2.2.2.1
def MS.Pi (m : MS) : Nat → Int32 := m.2.2.2.2.2.2.1
def MS.Z (m : MS) : Nat → Int32 := m.2.2.2.2.2.2.2.1
def MS.F (m : MS) : Nat → Int32 := m.2.2.2.2.2.2.2.2.1
def MS.la (m : MS) : Int32 := m.2.2.2.2.2.2.2.2.2
def MS.skd (m : MS) (v : Nat → Nat) : MS := ((v, m.1.2), m.2)
def MS.srt (m : MS) (v : Nat → Nat) : MS := ((m.1.1, v, m.1.2.2), m.2)
def MS.spu (m : MS) (v : Nat → Int64) : MS := ((m.1.1, m.1.2.1, v, m.1.2.2.2), m.2)
def MS.sst (m : MS) (v : Nat → Int64) : MS := ((m.1.1, m.1.2.1, m.1.2.2.1, v, m.1.2.2.2.2), m.2)
def MS.spl (m : MS) (v : Nat → Nat) : MS := ((m.1.1, m.1.2.1, m.1.2.2.1, m.1.2.2.2.1, v, m.1.2.2.2.2.2), m.2)
def MS.snu (m : MS) (v : Nat → Nat) : MS := ((m.1.1, m.1.2.1, m.1.2.2.1, m.1.2.2.2.1, m.1.2.2.2.2.1, v), m.2)
def MS.sky (m : MS) (v : Nat → Int64) : MS := (m.1, (v, m.2.1.2), m.2.2)
def MS.sP (m : MS) (v : PT) : MS := (m.1, (m.2.1.1, v, m.2.1.2.2), m.2.2)
def MS.scs (m : MS) (v : Nat → Nat) : MS := (m.1, (m.2.1.1, m.2.1.2.1, v, m.2.1.2.2.2), m.2.2)
def MS.sfV (m : MS) (v : Nat → Nat) : MS := (m.1, (m.2.1.1, m.2.1.2.1, m.2.1.2.2.1, v, m.2.1.2.2.2.2), m.2.2)
def MS.slV (m : MS) (v : Nat → Nat) : MS := (m.1, (m.2.1.1, m.2.1.2.1, m.2.1.2.2.1, m.2.1.2.2.2.1, v), m.2.2)
def MS.sit (m : MS) (v : Nat → Int64) : MS := (m.1, m.2.1, (v, m.2.2.1.2), m.2.2.2)
def MS.snx (m : MS) (v : Nat → Nat) : MS := (m.1, m.2.1, (m.2.2.1.1, v), m.2.2.2)
def MS.sK (m : MS) (v : Nat) : MS := (m.1, m.2.1, m.2.2.1, (v, m.2.2.2.1.2), m.2.2.2.2)
def MS.sE (m : MS) (v : Nat) : MS := (m.1, m.2.1, m.2.2.1, (m.2.2.2.1.1, v, m.2.2.2.1.2.2), m.2.2.2.2)
def MS.snm (m : MS) (v : Nat) : MS := (m.1, m.2.1, m.2.2.1, (m.2.2.2.1.1, m.2.2.2.1.2.1, v, m.2.2.2.1.2.2.2), m.2.2.2.2)
def MS.sfn (m : MS) (v : Nat) : MS := (m.1, m.2.1, m.2.2.1, (m.2.2.2.1.1, m.2.2.2.1.2.1, m.2.2.2.1.2.2.1, v, m.2.2.2.1.2.2.2.2), m.2.2.2.2)
def MS.sim (m : MS) (v : Nat) : MS := (m.1, m.2.1, m.2.2.1, (m.2.2.2.1.1, m.2.2.2.1.2.1, m.2.2.2.1.2.2.1, m.2.2.2.1.2.2.2.1, v, m.2.2.2.1.2.2.2.2.2), m.2.2.2.2)
def MS.sfi (m : MS) (v : Nat) : MS := (m.1, m.2.1, m.2.2.1, (m.2.2.2.1.1, m.2.2.2.1.2.1, m.2.2.2.1.2.2.1, m.2.2.2.1.2.2.2.1, m.2.2.2.1.2.2.2.2.1, v, m.2.2.2.1.2.2.2.2.2.2), m.2.2.2.2)
def MS.sse (m : MS) (v : Nat) : MS := (m.1, m.2.1, m.2.2.1, (m.2.2.2.1.1, m.2.2.2.1.2.1, m.2.2.2.1.2.2.1, m.2.2.2.1.2.2.2.1, m.2.2.2.1.2.2.2.2.1, m.2.2.2.1.2.2.2.2.2.1, v, m.2.2.2.1.2.2.2.2.2.2.2), m.2.2.2.2)
def MS.ssp (m : MS) (v : Nat) : MS := (m.1, m.2.1, m.2.2.1, (m.2.2.2.1.1, m.2.2.2.1.2.1, m.2.2.2.1.2.2.1, m.2.2.2.1.2.2.2.1, m.2.2.2.1.2.2.2.2.1, m.2.2.2.1.2.2.2.2.2.1, m.2.2.2.1.2.2.2.2.2.2.1, v, m.2.2.2.1.2.2.2.2.2.2.2.2), m.2.2.2.2)
def MS.sfk (m : MS) (v : Int64) : MS := (m.1, m.2.1, m.2.2.1, (m.2.2.2.1.1, m.2.2.2.1.2.1, m.2.2.2.1.2.2.1, m.2.2.2.1.2.2.2.1, m.2.2.2.1.2.2.2.2.1, m.2.2.2.1.2.2.2.2.2.1, m.2.2.2.1.2.2.2.2.2.2.1, m.2.2.2.1.2.2.2.2.2.2.2.1, v, m.2.2.2.1.2.2.2.2.2.2.2.2.2), m.2.2.2.2)
def MS.sfv (m : MS) (v : Int32) : MS := (m.1, m.2.1, m.2.2.1, (m.2.2.2.1.1, m.2.2.2.1.2.1, m.2.2.2.1.2.2.1, m.2.2.2.1.2.2.2.1, m.2.2.2.1.2.2.2.2.1, m.2.2.2.1.2.2.2.2.2.1, m.2.2.2.1.2.2.2.2.2.2.1, m.2.2.2.1.2.2.2.2.2.2.2.1, m.2.2.2.1.2.2.2.2.2.2.2.2.1, v, m.2.2.2.1.2.2.2.2.2.2.2.2.2.2), m.2.2.2.2)
def MS.sN (m : MS) (v : Nat) : MS := (m.1, m.2.1, m.2.2.1, (m.2.2.2.1.1, m.2.2.2.1.2.1, m.2.2.2.1.2.2.1, m.2.2.2.1.2.2.2.1, m.2.2.2.1.2.2.2.2.1, m.2.2.2.1.2.2.2.2.2.1, m.2.2.2.1.2.2.2.2.2.2.1, m.2.2.2.1.2.2.2.2.2.2.2.1, m.2.2.2.1.2.2.2.2.2.2.2.2.1, m.2.2.2.1.2.2.2.2.2.2.2.2.2.1, v, m.2.2.2.1.2.2.2.2.2.2.2.2.2.2.2), m.2.2.2.2)
def MS.sbs (m : MS) (v : Nat) : MS := (m.1, m.2.1, m.2.2.1, (m.2.2.2.1.1, m.2.2.2.1.2.1, m.2.2.2.1.2.2.1, m.2.2.2.1.2.2.2.1, m.2.2.2.1.2.2.2.2.1, m.2.2.2.1.2.2.2.2.2.1, m.2.2.2.1.2.2.2.2.2.2.1, m.2.2.2.1.2.2.2.2.2.2.2.1, m.2.2.2.1.2.2.2.2.2.2.2.2.1, m.2.2.2.1.2.2.2.2.2.2.2.2.2.1, m.2.2.2.1.2.2.2.2.2.2.2.2.2.2.1, v), m.2.2.2.2)
def MS.srO (m : MS) (v : Nat → Int32) : MS := (m.1, m.2.1, m.2.2.1, m.2.2.2.1, (v, m.2.2.2.2.1.2), m.2.2.2.2.2)
def MS.srP (m : MS) (v : Nat → Int32) : MS := (m.1, m.2.1, m.2.2.1, m.2.2.2.1, (m.2.2.2.2.1.1, v, m.2.2.2.2.1.2.2), m.2.2.2.2.2)
def MS.srT (m : MS) (v : Nat → Int32) : MS := (m.1, m.2.1, m.2.2.1, m.2.2.2.1, (m.2.2.2.2.1.1, m.2.2.2.2.1.2.1, v, m.2.2.2.2.1.2.2.2), m.2.2.2.2.2)
def MS.srQ (m : MS) (v : Nat → Int32) : MS := (m.1, m.2.1, m.2.2.1, m.2.2.2.1, (m.2.2.2.2.1.1, m.2.2.2.2.1.2.1, m.2.2.2.2.1.2.2.1, v), m.2.2.2.2.2)
def MS.sO (m : MS) (v : Nat → Int32) : MS := (m.1, m.2.1, m.2.2.1, m.2.2.2.1, m.2.2.2.2.1, (v, m.2.2.2.2.2.2))
def MS.sPi (m : MS) (v : Nat → Int32) : MS := (m.1, m.2.1, m.2.2.1, m.2.2.2.1, m.2.2.2.2.1, (m.2.2.2.2.2.1, v, m.2.2.2.2.2.2.2))
def MS.sZ (m : MS) (v : Nat → Int32) : MS := (m.1, m.2.1, m.2.2.1, m.2.2.2.1, m.2.2.2.2.1, (m.2.2.2.2.2.1, m.2.2.2.2.2.2.1, v, m.2.2.2.2.2.2.2.2))
def MS.sF (m : MS) (v : Nat → Int32) : MS := (m.1, m.2.1, m.2.2.1, m.2.2.2.1, m.2.2.2.2.1, (m.2.2.2.2.2.1, m.2.2.2.2.2.2.1, m.2.2.2.2.2.2.2.1, v, m.2.2.2.2.2.2.2.2.2))
def MS.sla (m : MS) (v : Int32) : MS := (m.1, m.2.1, m.2.2.1, m.2.2.2.1, m.2.2.2.2.1, (m.2.2.2.2.2.1, m.2.2.2.2.2.2.1, m.2.2.2.2.2.2.2.1, m.2.2.2.2.2.2.2.2.1, v))
theorem Skd (m : MS) (v : Nat → Nat) : (m.skd v).kd = v ∧ (m.skd v).rt = m.rt ∧ (m.skd v).pu = m.pu ∧ (m.skd v).st = m.st ∧ (m.skd v).pl = m.pl ∧ (m.skd v).nu = m.nu ∧ (m.skd v).ky = m.ky ∧ (m.skd v).P = m.P ∧ (m.skd v).cs = m.cs ∧ (m.skd v).fV = m.fV ∧ (m.skd v).lV = m.lV ∧ (m.skd v).it = m.it ∧ (m.skd v).nx = m.nx ∧ (m.skd v).K = m.K ∧ (m.skd v).E = m.E ∧ (m.skd v).nm = m.nm ∧ (m.skd v).fn = m.fn ∧ (m.skd v).im = m.im ∧ (m.skd v).fi = m.fi ∧ (m.skd v).se = m.se ∧ (m.skd v).sp = m.sp ∧ (m.skd v).fk = m.fk ∧ (m.skd v).fv = m.fv ∧ (m.skd v).N = m.N ∧ (m.skd v).bs = m.bs ∧ (m.skd v).rO = m.rO ∧ (m.skd v).rP = m.rP ∧ (m.skd v).rT = m.rT ∧ (m.skd v).rQ = m.rQ ∧ (m.skd v).O = m.O ∧ (m.skd v).Pi = m.Pi ∧ (m.skd v).Z = m.Z ∧ (m.skd v).F = m.F ∧ (m.skd v).la = m.la := ⟨rfl, rfl, rfl, rfl, rfl, rfl, rfl, rfl, rfl, rfl, rfl, rfl, rfl, rfl, rfl, rfl, rfl, rfl, rfl, rfl, rfl, rfl, rfl, rfl, rfl, rfl, rfl, rfl, rfl, rfl, rfl, rfl, rfl, rfl⟩
theorem Srt (m : MS) (v : Nat → Nat) : (m.srt v).kd = m.kd ∧ (m.srt v).rt = v ∧ (m.srt v).pu = m.pu ∧ (m.srt v).st = m.st ∧ (m.srt v).pl = m.pl ∧ (m.srt v).nu = m.nu ∧ (m.srt v).ky = m.ky ∧ (m.srt v).P = m.P ∧ (m.srt v).cs = m.cs ∧ (m.srt v).fV = m.fV ∧ (m.srt v).lV = m.lV ∧ (m.srt v).it = m.it ∧ (m.srt v).nx = m.nx ∧ (m.srt v).K = m.K ∧ (m.srt v).E = m.E ∧ (m.srt v).nm = m.nm ∧ (m.srt v).fn = m.fn ∧ (m.srt v).im = m.im ∧ (m.srt v).fi = m.fi ∧ (m.srt v).se = m.se ∧ (m.srt v).sp = m.sp ∧ (m.srt v).fk = m.fk ∧ (m.srt v).fv = m.fv ∧ (m.srt v).N = m.N ∧ (m.srt v).bs = m.bs ∧ (m.srt v).rO = m.rO ∧ (m.srt v).rP = m.rP ∧ (m.srt v).rT = m.rT ∧ (m.srt v).rQ = m.rQ ∧ (m.srt v).O = m.O ∧ (m.srt v).Pi = m.Pi ∧ (m.srt v).Z = m.Z ∧ (m.srt v).F = m.F ∧ (m.srt v).la = m.la := ⟨rfl, rfl, rfl, rfl, rfl, rfl, rfl, rfl, rfl, rfl, rfl, rfl, rfl, rfl, rfl, rfl, rfl, rfl, rfl, rfl, rfl, rfl, rfl, rfl, rfl, rfl, rfl, rfl, rfl, rfl, rfl, rfl, rfl, rfl⟩
theorem Spu (m : MS) (v : Nat → Int64) : (m.spu v).kd = m.kd ∧ (m.spu v).rt = m.rt ∧ (m.spu v).pu = v ∧ (m.spu v).st = m.st ∧ (m.spu v).pl = m.pl ∧ (m.spu v).nu = m.nu ∧ (m.spu v).ky = m.ky ∧ (m.spu v).P = m.P ∧ (m.spu v).cs = m.cs ∧ (m.spu v).fV = m.fV ∧ (m.spu v).lV = m.lV ∧ (m.spu v).it = m.it ∧ (m.spu v).nx = m.nx ∧ (m.spu v).K = m.K ∧ (m.spu v).E = m.E ∧ (m.spu v).nm = m.nm ∧ (m.spu v).fn = m.fn ∧ (m.spu v).im = m.im ∧ (m.spu v).fi = m.fi ∧ (m.spu v).se = m.se ∧ (m.spu v).sp = m.sp ∧ (m.spu v).fk = m.fk ∧ (m.spu v).fv = m.fv ∧ (m.spu v).N = m.N ∧ (m.spu v).bs = m.bs ∧ (m.spu v).rO = m.rO ∧ (m.spu v).rP = m.rP ∧ (m.spu v).rT = m.rT ∧ (m.spu v).rQ = m.rQ ∧ (m.spu v).O = m.O ∧ (m.spu v).Pi = m.Pi ∧ (m.spu v).Z = m.Z ∧ (m.spu v).F = m.F ∧ (m.spu v).la = m.la := ⟨rfl, rfl, rfl, rfl, rfl, rfl, rfl, rfl, rfl, rfl, rfl, rfl, rfl, rfl, rfl, rfl, rfl, rfl, rfl, rfl, rfl, rfl, rfl, rfl, rfl, rfl, rfl, rfl, rfl, rfl, rfl, rfl, rfl, rfl⟩
theorem Sst (m : MS) (v : Nat → Int64) : (m.sst v).kd = m.kd ∧ (m.sst v).rt = m.rt ∧ (m.sst v).pu = m.pu ∧ (m.sst v).st = v ∧ (m.sst v).pl = m.pl ∧ (m.sst v).nu = m.nu ∧ (m.sst v).ky = m.ky ∧ (m.sst v).P = m.P ∧ (m.sst v).cs = m.cs ∧ (m.sst v).fV = m.fV ∧ (m.sst v).lV = m.lV ∧ (m.sst v).it = m.it ∧ (m.sst v).nx = m.nx ∧ (m.sst v).K = m.K ∧ (m.sst v).E = m.E ∧ (m.sst v).nm = m.nm ∧ (m.sst v).fn = m.fn ∧ (m.sst v).im = m.im ∧ (m.sst v).fi = m.fi ∧ (m.sst v).se = m.se ∧ (m.sst v).sp = m.sp ∧ (m.sst v).fk = m.fk ∧ (m.sst v).fv = m.fv ∧ (m.sst v).N = m.N ∧ (m.sst v).bs = m.bs ∧ (m.sst v).rO = m.rO ∧ (m.sst v).rP = m.rP ∧ (m.sst v).rT = m.rT ∧ (m.sst v).rQ = m.rQ ∧ (m.sst v).O = m.O ∧ (m.sst v).Pi = m.Pi ∧ (m.sst v).Z = m.Z ∧ (m.sst v).F = m.F ∧ (m.sst v).la = m.la := ⟨rfl, rfl, rfl, rfl, rfl, rfl, rfl, rfl, rfl, rfl, rfl, rfl, rfl, rfl, rfl, rfl, rfl, rfl, rfl, rfl, rfl, rfl, rfl, rfl, rfl, rfl, rfl, rfl, rfl, rfl, rfl, rfl, rfl, rfl⟩
theorem Spl (m : MS) (v : Nat → Nat) : (m.spl v).kd = m.kd ∧ (m.spl v).rt = m.rt ∧ (m.spl v).pu = m.pu ∧ (m.spl v).st = m.st ∧ (m.spl v).pl = v ∧ (m.spl v).nu = m.nu ∧ (m.spl v).ky = m.ky ∧ (m.spl v).P = m.P ∧ (m.spl v).cs = m.cs ∧ (m.spl v).fV = m.fV ∧ (m.spl v).lV = m.lV ∧ (m.spl v).it = m.it ∧ (m.spl v).nx = m.nx ∧ (m.spl v).K = m.K ∧ (m.spl v).E = m.E ∧ (m.spl v).nm = m.nm ∧ (m.spl v).fn = m.fn ∧ (m.spl v).im = m.im ∧ (m.spl v).fi = m.fi ∧ (m.spl v).se = m.se ∧ (m.spl v).sp = m.sp ∧ (m.spl v).fk = m.fk ∧ (m.spl v).fv = m.fv ∧ (m.spl v).N = m.N ∧ (m.spl v).bs = m.bs ∧ (m.spl v).rO = m.rO ∧ (m.spl v).rP = m.rP ∧ (m.spl v).rT = m.rT ∧ (m.spl v).rQ = m.rQ ∧ (m.spl v).O = m.O ∧ (m.spl v).Pi = m.Pi ∧ (m.spl v).Z = m.Z ∧ (m.spl v).F = m.F ∧ (m.spl v).la = m.la := ⟨rfl, rfl, rfl, rfl, rfl, rfl, rfl, rfl, rfl, rfl, rfl, rfl, rfl, rfl, rfl, rfl, rfl, rfl, rfl, rfl, rfl, rfl, rfl, rfl, rfl, rfl, rfl, rfl, rfl, rfl, rfl, rfl, rfl, rfl⟩
theorem Snu (m : MS) (v : Nat → Nat) : (m.snu v).kd = m.kd ∧ (m.snu v).rt = m.rt ∧ (m.snu v).pu = m.pu ∧ (m.snu v).st = m.st ∧ (m.snu v).pl = m.pl ∧ (m.snu v).nu = v ∧ (m.snu v).ky = m.ky ∧ (m.snu v).P = m.P ∧ (m.snu v).cs = m.cs ∧ (m.snu v).fV = m.fV ∧ (m.snu v).lV = m.lV ∧ (m.snu v).it = m.it ∧ (m.snu v).nx = m.nx ∧ (m.snu v).K = m.K ∧ (m.snu v).E = m.E ∧ (m.snu v).nm = m.nm ∧ (m.snu v).fn = m.fn ∧ (m.snu v).im = m.im ∧ (m.snu v).fi = m.fi ∧ (m.snu v).se = m.se ∧ (m.snu v).sp = m.sp ∧ (m.snu v).fk = m.fk ∧ (m.snu v).fv = m.fv ∧ (m.snu v).N = m.N ∧ (m.snu v).bs = m.bs ∧ (m.snu v).rO = m.rO ∧ (m.snu v).rP = m.rP ∧ (m.snu v).rT = m.rT ∧ (m.snu v).rQ = m.rQ ∧ (m.snu v).O = m.O ∧ (m.snu v).Pi = m.Pi ∧ (m.snu v).Z = m.Z ∧ (m.snu v).F = m.F ∧ (m.snu v).la = m.la := ⟨rfl, rfl, rfl, rfl, rfl, rfl, rfl, rfl, rfl, rfl, rfl, rfl, rfl, rfl, rfl, rfl, rfl, rfl, rfl, rfl, rfl, rfl, rfl, rfl, rfl, rfl, rfl, rfl, rfl, rfl, rfl, rfl, rfl, rfl⟩
theorem Sky (m : MS) (v : Nat → Int64) : (m.sky v).kd = m.kd ∧ (m.sky v).rt = m.rt ∧ (m.sky v).pu = m.pu ∧ (m.sky v).st = m.st ∧ (m.sky v).pl = m.pl ∧ (m.sky v).nu = m.nu ∧ (m.sky v).ky = v ∧ (m.sky v).P = m.P ∧ (m.sky v).cs = m.cs ∧ (m.sky v).fV = m.fV ∧ (m.sky v).lV = m.lV ∧ (m.sky v).it = m.it ∧ (m.sky v).nx = m.nx ∧ (m.sky v).K = m.K ∧ (m.sky v).E = m.E ∧ (m.sky v).nm = m.nm ∧ (m.sky v).fn = m.fn ∧ (m.sky v).im = m.im ∧ (m.sky v).fi = m.fi ∧ (m.sky v).se = m.se ∧ (m.sky v).sp = m.sp ∧ (m.sky v).fk = m.fk ∧ (m.sky v).fv = m.fv ∧ (m.sky v).N = m.N ∧ (m.sky v).bs = m.bs ∧ (m.sky v).rO = m.rO ∧ (m.sky v).rP = m.rP ∧ (m.sky v).rT = m.rT ∧ (m.sky v).rQ = m.rQ ∧ (m.sky v).O = m.O ∧ (m.sky v).Pi = m.Pi ∧ (m.sky v).Z = m.Z ∧ (m.sky v).F = m.F ∧ (m.sky v).la = m.la := ⟨rfl, rfl, rfl, rfl, rfl, rfl, rfl, rfl, rfl, rfl, rfl, rfl, rfl, rfl, rfl, rfl, rfl, rfl, rfl, rfl, rfl, rfl, rfl, rfl, rfl, rfl, rfl, rfl, rfl, rfl, rfl, rfl, rfl, rfl⟩
theorem SP (m : MS) (v : PT) : (m.sP v).kd = m.kd ∧ (m.sP v).rt = m.rt ∧ (m.sP v).pu = m.pu ∧ (m.sP v).st = m.st ∧ (m.sP v).pl = m.pl ∧ (m.sP v).nu = m.nu ∧ (m.sP v).ky = m.ky ∧ (m.sP v).P = v ∧ (m.sP v).cs = m.cs ∧ (m.sP v).fV = m.fV ∧ (m.sP v).lV = m.lV ∧ (m.sP v).it = m.it ∧ (m.sP v).nx = m.nx ∧ (m.sP v).K = m.K ∧ (m.sP v).E = m.E ∧ (m.sP v).nm = m.nm ∧ (m.sP v).fn = m.fn ∧ (m.sP v).im = m.im ∧ (m.sP v).fi = m.fi ∧ (m.sP v).se = m.se ∧ (m.sP v).sp = m.sp ∧ (m.sP v).fk = m.fk ∧ (m.sP v).fv = m.fv ∧ (m.sP v).N = m.N ∧ (m.sP v).bs = m.bs ∧ (m.sP v).rO = m.rO ∧ (m.sP v).rP = m.rP ∧ (m.sP v).rT = m.rT ∧ (m.sP v).rQ = m.rQ ∧ (m.sP v).O = m.O ∧ (m.sP v).Pi = m.Pi ∧ (m.sP v).Z = m.Z ∧ (m.sP v).F = m.F ∧ (m.sP v).la = m.la := ⟨rfl, rfl, rfl, rfl, rfl, rfl, rfl, rfl, rfl, rfl, rfl, rfl, rfl, rfl, rfl, rfl, rfl, rfl, rfl, rfl, rfl, rfl, rfl, rfl, rfl, rfl, rfl, rfl, rfl, rfl, rfl, rfl, rfl, rfl⟩
theorem Scs (m : MS) (v : Nat → Nat) : (m.scs v).kd = m.kd ∧ (m.scs v).rt = m.rt ∧ (m.scs v).pu = m.pu ∧ (m.scs v).st = m.st ∧ (m.scs v).pl = m.pl ∧ (m.scs v).nu = m.nu ∧ (m.scs v).ky = m.ky ∧ (m.scs v).P = m.P ∧ (m.scs v).cs = v ∧ (m.scs v).fV = m.fV ∧ (m.scs v).lV = m.lV ∧ (m.scs v).it = m.it ∧ (m.scs v).nx = m.nx ∧ (m.scs v).K = m.K ∧ (m.scs v).E = m.E ∧ (m.scs v).nm = m.nm ∧ (m.scs v).fn = m.fn ∧ (m.scs v).im = m.im ∧ (m.scs v).fi = m.fi ∧ (m.scs v).se = m.se ∧ (m.scs v).sp = m.sp ∧ (m.scs v).fk = m.fk ∧ (m.scs v).fv = m.fv ∧ (m.scs v).N = m.N ∧ (m.scs v).bs = m.bs ∧ (m.scs v).rO = m.rO ∧ (m.scs v).rP = m.rP ∧ (m.scs v).rT = m.rT ∧ (m.scs v).rQ = m.rQ ∧ (m.scs v).O = m.O ∧ (m.scs v).Pi = m.Pi ∧ (m.scs v).Z = m.Z ∧ (m.scs v).F = m.F ∧ (m.scs v).la = m.la := ⟨rfl, rfl, rfl, rfl, rfl, rfl, rfl, rfl, rfl, rfl, rfl, rfl, rfl, rfl, rfl, rfl, rfl, rfl, rfl, rfl, rfl, rfl, rfl, rfl, rfl, rfl, rfl, rfl, rfl, rfl, rfl, rfl, rfl, rfl⟩
theorem SfV (m : MS) (v : Nat → Nat) : (m.sfV v).kd = m.kd ∧ (m.sfV v).rt = m.rt ∧ (m.sfV v).pu = m.pu ∧ (m.sfV v).st = m.st ∧ (m.sfV v).pl = m.pl ∧ (m.sfV v).nu = m.nu ∧ (m.sfV v).ky = m.ky ∧ (m.sfV v).P = m.P ∧ (m.sfV v).cs = m.cs ∧ (m.sfV v).fV = v ∧ (m.sfV v).lV = m.lV ∧ (m.sfV v).it = m.it ∧ (m.sfV v).nx = m.nx ∧ (m.sfV v).K = m.K ∧ (m.sfV v).E = m.E ∧ (m.sfV v).nm = m.nm ∧ (m.sfV v).fn = m.fn ∧ (m.sfV v).im = m.im ∧ (m.sfV v).fi = m.fi ∧ (m.sfV v).se = m.se ∧ (m.sfV v).sp = m.sp ∧ (m.sfV v).fk = m.fk ∧ (m.sfV v).fv = m.fv ∧ (m.sfV v).N = m.N ∧ (m.sfV v).bs = m.bs ∧ (m.sfV v).rO = m.rO ∧ (m.sfV v).rP = m.rP ∧ (m.sfV v).rT = m.rT ∧ (m.sfV v).rQ = m.rQ ∧ (m.sfV v).O = m.O ∧ (m.sfV v).Pi = m.Pi ∧ (m.sfV v).Z = m.Z ∧ (m.sfV v).F = m.F ∧ (m.sfV v).la = m.la := ⟨rfl, rfl, rfl, rfl, rfl, rfl, rfl, rfl, rfl, rfl, rfl, rfl, rfl, rfl, rfl, rfl, rfl, rfl, rfl, rfl, rfl, rfl, rfl, rfl, rfl, rfl, rfl, rfl, rfl, rfl, rfl, rfl, rfl, rfl⟩
theorem SlV (m : MS) (v : Nat → Nat) : (m.slV v).kd = m.kd ∧ (m.slV v).rt = m.rt ∧ (m.slV v).pu = m.pu ∧ (m.slV v).st = m.st ∧ (m.slV v).pl = m.pl ∧ (m.slV v).nu = m.nu ∧ (m.slV v).ky = m.ky ∧ (m.slV v).P = m.P ∧ (m.slV v).cs = m.cs ∧ (m.slV v).fV = m.fV ∧ (m.slV v).lV = v ∧ (m.slV v).it = m.it ∧ (m.slV v).nx = m.nx ∧ (m.slV v).K = m.K ∧ (m.slV v).E = m.E ∧ (m.slV v).nm = m.nm ∧ (m.slV v).fn = m.fn ∧ (m.slV v).im = m.im ∧ (m.slV v).fi = m.fi ∧ (m.slV v).se = m.se ∧ (m.slV v).sp = m.sp ∧ (m.slV v).fk = m.fk ∧ (m.slV v).fv = m.fv ∧ (m.slV v).N = m.N ∧ (m.slV v).bs = m.bs ∧ (m.slV v).rO = m.rO ∧ (m.slV v).rP = m.rP ∧ (m.slV v).rT = m.rT ∧ (m.slV v).rQ = m.rQ ∧ (m.slV v).O = m.O ∧ (m.slV v).Pi = m.Pi ∧ (m.slV v).Z = m.Z ∧ (m.slV v).F = m.F ∧ (m.slV v).la = m.la := ⟨rfl, rfl, rfl, rfl, rfl, rfl, rfl, rfl, rfl, rfl, rfl, rfl, rfl, rfl, rfl, rfl, rfl, rfl, rfl, rfl, rfl, rfl, rfl, rfl, rfl, rfl, rfl, rfl, rfl, rfl, rfl, rfl, rfl, rfl⟩
theorem Sit (m : MS) (v : Nat → Int64) : (m.sit v).kd = m.kd ∧ (m.sit v).rt = m.rt ∧ (m.sit v).pu = m.pu ∧ (m.sit v).st = m.st ∧ (m.sit v).pl = m.pl ∧ (m.sit v).nu = m.nu ∧ (m.sit v).ky = m.ky ∧ (m.sit v).P = m.P ∧ (m.sit v).cs = m.cs ∧ (m.sit v).fV = m.fV ∧ (m.sit v).lV = m.lV ∧ (m.sit v).it = v ∧ (m.sit v).nx = m.nx ∧ (m.sit v).K = m.K ∧ (m.sit v).E = m.E ∧ (m.sit v).nm = m.nm ∧ (m.sit v).fn = m.fn ∧ (m.sit v).im = m.im ∧ (m.sit v).fi = m.fi ∧ (m.sit v).se = m.se ∧ (m.sit v).sp = m.sp ∧ (m.sit v).fk = m.fk ∧ (m.sit v).fv = m.fv ∧ (m.sit v).N = m.N ∧ (m.sit v).bs = m.bs ∧ (m.sit v).rO = m.rO ∧ (m.sit v).rP = m.rP ∧ (m.sit v).rT = m.rT ∧ (m.sit v).rQ = m.rQ ∧ (m.sit v).O = m.O ∧ (m.sit v).Pi = m.Pi ∧ (m.sit v).Z = m.Z ∧ (m.sit v).F = m.F ∧ (m.sit v).la = m.la := ⟨rfl, rfl, rfl, rfl, rfl, rfl, rfl, rfl, rfl, rfl, rfl, rfl, rfl, rfl, rfl, rfl, rfl, rfl, rfl, rfl, rfl, rfl, rfl, rfl, rfl, rfl, rfl, rfl, rfl, rfl, rfl, rfl, rfl, rfl⟩
theorem Snx (m : MS) (v : Nat → Nat) : (m.snx v).kd = m.kd ∧ (m.snx v).rt = m.rt ∧ (m.snx v).pu = m.pu ∧ (m.snx v).st = m.st ∧ (m.snx v).pl = m.pl ∧ (m.snx v).nu = m.nu ∧ (m.snx v).ky = m.ky ∧ (m.snx v).P = m.P ∧ (m.snx v).cs = m.cs ∧ (m.snx v).fV = m.fV ∧ (m.snx v).lV = m.lV ∧ (m.snx v).it = m.it ∧ (m.snx v).nx = v ∧ (m.snx v).K = m.K ∧ (m.snx v).E = m.E ∧ (m.snx v).nm = m.nm ∧ (m.snx v).fn = m.fn ∧ (m.snx v).im = m.im ∧ (m.snx v).fi = m.fi ∧ (m.snx v).se = m.se ∧ (m.snx v).sp = m.sp ∧ (m.snx v).fk = m.fk ∧ (m.snx v).fv = m.fv ∧ (m.snx v).N = m.N ∧ (m.snx v).bs = m.bs ∧ (m.snx v).rO = m.rO ∧ (m.snx v).rP = m.rP ∧ (m.snx v).rT = m.rT ∧ (m.snx v).rQ = m.rQ ∧ (m.snx v).O = m.O ∧ (m.snx v).Pi = m.Pi ∧ (m.snx v).Z = m.Z ∧ (m.snx v).F = m.F ∧ (m.snx v).la = m.la := ⟨rfl, rfl, rfl, rfl, rfl, rfl, rfl, rfl, rfl, rfl, rfl, rfl, rfl, rfl, rfl, rfl, rfl, rfl, rfl, rfl, rfl, rfl, rfl, rfl, rfl, rfl, rfl, rfl, rfl, rfl, rfl, rfl, rfl, rfl⟩
theorem SK (m : MS) (v : Nat) : (m.sK v).kd = m.kd ∧ (m.sK v).rt = m.rt ∧ (m.sK v).pu = m.pu ∧ (m.sK v).st = m.st ∧ (m.sK v).pl = m.pl ∧ (m.sK v).nu = m.nu ∧ (m.sK v).ky = m.ky ∧ (m.sK v).P = m.P ∧ (m.sK v).cs = m.cs ∧ (m.sK v).fV = m.fV ∧ (m.sK v).lV = m.lV ∧ (m.sK v).it = m.it ∧ (m.sK v).nx = m.nx ∧ (m.sK v).K = v ∧ (m.sK v).E = m.E ∧ (m.sK v).nm = m.nm ∧ (m.sK v).fn = m.fn ∧ (m.sK v).im = m.im ∧ (m.sK v).fi = m.fi ∧ (m.sK v).se = m.se ∧ (m.sK v).sp = m.sp ∧ (m.sK v).fk = m.fk ∧ (m.sK v).fv = m.fv ∧ (m.sK v).N = m.N ∧ (m.sK v).bs = m.bs ∧ (m.sK v).rO = m.rO ∧ (m.sK v).rP = m.rP ∧ (m.sK v).rT = m.rT ∧ (m.sK v).rQ = m.rQ ∧ (m.sK v).O = m.O ∧ (m.sK v).Pi = m.Pi ∧ (m.sK v).Z = m.Z ∧ (m.sK v).F = m.F ∧ (m.sK v).la = m.la := ⟨rfl, rfl, rfl, rfl, rfl, rfl, rfl, rfl, rfl, rfl, rfl, rfl, rfl, rfl, rfl, rfl, rfl, rfl, rfl, rfl, rfl, rfl, rfl, rfl, rfl, rfl, rfl, rfl, rfl, rfl, rfl, rfl, rfl, rfl⟩
theorem SE (m : MS) (v : Nat) : (m.sE v).kd = m.kd ∧ (m.sE v).rt = m.rt ∧ (m.sE v).pu = m.pu ∧ (m.sE v).st = m.st ∧ (m.sE v).pl = m.pl ∧ (m.sE v).nu = m.nu ∧ (m.sE v).ky = m.ky ∧ (m.sE v).P = m.P ∧ (m.sE v).cs = m.cs ∧ (m.sE v).fV = m.fV ∧ (m.sE v).lV = m.lV ∧ (m.sE v).it = m.it ∧ (m.sE v).nx = m.nx ∧ (m.sE v).K = m.K ∧ (m.sE v).E = v ∧ (m.sE v).nm = m.nm ∧ (m.sE v).fn = m.fn ∧ (m.sE v).im = m.im ∧ (m.sE v).fi = m.fi ∧ (m.sE v).se = m.se ∧ (m.sE v).sp = m.sp ∧ (m.sE v).fk = m.fk ∧ (m.sE v).fv = m.fv ∧ (m.sE v).N = m.N ∧ (m.sE v).bs = m.bs ∧ (m.sE v).rO = m.rO ∧ (m.sE v).rP = m.rP ∧ (m.sE v).rT = m.rT ∧ (m.sE v).rQ = m.rQ ∧ (m.sE v).O = m.O ∧ (m.sE v).Pi = m.Pi ∧ (m.sE v).Z = m.Z ∧ (m.sE v).F = m.F ∧ (m.sE v).la = m.la := ⟨rfl, rfl, rfl, rfl, rfl, rfl, rfl, rfl, rfl, rfl, rfl, rfl, rfl, rfl, rfl, rfl, rfl, rfl, rfl, rfl, rfl, rfl, rfl, rfl, rfl, rfl, rfl, rfl, rfl, rfl, rfl, rfl, rfl, rfl⟩
theorem Snm (m : MS) (v : Nat) : (m.snm v).kd = m.kd ∧ (m.snm v).rt = m.rt ∧ (m.snm v).pu = m.pu ∧ (m.snm v).st = m.st ∧ (m.snm v).pl = m.pl ∧ (m.snm v).nu = m.nu ∧ (m.snm v).ky = m.ky ∧ (m.snm v).P = m.P ∧ (m.snm v).cs = m.cs ∧ (m.snm v).fV = m.fV ∧ (m.snm v).lV = m.lV ∧ (m.snm v).it = m.it ∧ (m.snm v).nx = m.nx ∧ (m.snm v).K = m.K ∧ (m.snm v).E = m.E ∧ (m.snm v).nm = v ∧ (m.snm v).fn = m.fn ∧ (m.snm v).im = m.im ∧ (m.snm v).fi = m.fi ∧ (m.snm v).se = m.se ∧ (m.snm v).sp = m.sp ∧ (m.snm v).fk = m.fk ∧ (m.snm v).fv = m.fv ∧ (m.snm v).N = m.N ∧ (m.snm v).bs = m.bs ∧ (m.snm v).rO = m.rO ∧ (m.snm v).rP = m.rP ∧ (m.snm v).rT = m.rT ∧ (m.snm v).rQ = m.rQ ∧ (m.snm v).O = m.O ∧ (m.snm v).Pi = m.Pi ∧ (m.snm v).Z = m.Z ∧ (m.snm v).F = m.F ∧ (m.snm v).la = m.la := ⟨rfl, rfl, rfl, rfl, rfl, rfl, rfl, rfl, rfl, rfl, rfl, rfl, rfl, rfl, rfl, rfl, rfl, rfl, rfl, rfl, rfl, rfl, rfl, rfl, rfl, rfl, rfl, rfl, rfl, rfl, rfl, rfl, rfl, rfl⟩
theorem Sfn (m : MS) (v : Nat) : (m.sfn v).kd = m.kd ∧ (m.sfn v).rt = m.rt ∧ (m.sfn v).pu = m.pu ∧ (m.sfn v).st = m.st ∧ (m.sfn v).pl = m.pl ∧ (m.sfn v).nu = m.nu ∧ (m.sfn v).ky = m.ky ∧ (m.sfn v).P = m.P ∧ (m.sfn v).cs = m.cs ∧ (m.sfn v).fV = m.fV ∧ (m.sfn v).lV = m.lV ∧ (m.sfn v).it = m.it ∧ (m.sfn v).nx = m.nx ∧ (m.sfn v).K = m.K ∧ (m.sfn v).E = m.E ∧ (m.sfn v).nm = m.nm ∧ (m.sfn v).fn = v ∧ (m.sfn v).im = m.im ∧ (m.sfn v).fi = m.fi ∧ (m.sfn v).se = m.se ∧ (m.sfn v).sp = m.sp ∧ (m.sfn v).fk = m.fk ∧ (m.sfn v).fv = m.fv ∧ (m.sfn v).N = m.N ∧ (m.sfn v).bs = m.bs ∧ (m.sfn v).rO = m.rO ∧ (m.sfn v).rP = m.rP ∧ (m.sfn v).rT = m.rT ∧ (m.sfn v).rQ = m.rQ ∧ (m.sfn v).O = m.O ∧ (m.sfn v).Pi = m.Pi ∧ (m.sfn v).Z = m.Z ∧ (m.sfn v).F = m.F ∧ (m.sfn v).la = m.la := ⟨rfl, rfl, rfl, rfl, rfl, rfl, rfl, rfl, rfl, rfl, rfl, rfl, rfl, rfl, rfl, rfl, rfl, rfl, rfl, rfl, rfl, rfl, rfl, rfl, rfl, rfl, rfl, rfl, rfl, rfl, rfl, rfl, rfl, rfl⟩
theorem Sim (m : MS) (v : Nat) : (m.sim v).kd = m.kd ∧ (m.sim v).rt = m.rt ∧ (m.sim v).pu = m.pu ∧ (m.sim v).st = m.st ∧ (m.sim v).pl = m.pl ∧ (m.sim v).nu = m.nu ∧ (m.sim v).ky = m.ky ∧ (m.sim v).P = m.P ∧ (m.sim v).cs = m.cs ∧ (m.sim v).fV = m.fV ∧ (m.sim v).lV = m.lV ∧ (m.sim v).it = m.it ∧ (m.sim v).nx = m.nx ∧ (m.sim v).K = m.K ∧ (m.sim v).E = m.E ∧ (m.sim v).nm = m.nm ∧ (m.sim v).fn = m.fn ∧ (m.sim v).im = v ∧ (m.sim v).fi = m.fi ∧ (m.sim v).se = m.se ∧ (m.sim v).sp = m.sp ∧ (m.sim v).fk = m.fk ∧ (m.sim v).fv = m.fv ∧ (m.sim v).N = m.N ∧ (m.sim v).bs = m.bs ∧ (m.sim v).rO = m.rO ∧ (m.sim v).rP = m.rP ∧ (m.sim v).rT = m.rT ∧ (m.sim v).rQ = m.rQ ∧ (m.sim v).O = m.O ∧ (m.sim v).Pi = m.Pi ∧ (m.sim v).Z = m.Z ∧ (m.sim v).F = m.F ∧ (m.sim v).la = m.la := ⟨rfl, rfl, rfl, rfl, rfl, rfl, rfl, rfl, rfl, rfl, rfl, rfl, rfl, rfl, rfl, rfl, rfl, rfl, rfl, rfl, rfl, rfl, rfl, rfl, rfl, rfl, rfl, rfl, rfl, rfl, rfl, rfl, rfl, rfl⟩
theorem Sfi (m : MS) (v : Nat) : (m.sfi v).kd = m.kd ∧ (m.sfi v).rt = m.rt ∧ (m.sfi v).pu = m.pu ∧ (m.sfi v).st = m.st ∧ (m.sfi v).pl = m.pl ∧ (m.sfi v).nu = m.nu ∧ (m.sfi v).ky = m.ky ∧ (m.sfi v).P = m.P ∧ (m.sfi v).cs = m.cs ∧ (m.sfi v).fV = m.fV ∧ (m.sfi v).lV = m.lV ∧ (m.sfi v).it = m.it ∧ (m.sfi v).nx = m.nx ∧ (m.sfi v).K = m.K ∧ (m.sfi v).E = m.E ∧ (m.sfi v).nm = m.nm ∧ (m.sfi v).fn = m.fn ∧ (m.sfi v).im = m.im ∧ (m.sfi v).fi = v ∧ (m.sfi v).se = m.se ∧ (m.sfi v).sp = m.sp ∧ (m.sfi v).fk = m.fk ∧ (m.sfi v).fv = m.fv ∧ (m.sfi v).N = m.N ∧ (m.sfi v).bs = m.bs ∧ (m.sfi v).rO = m.rO ∧ (m.sfi v).rP = m.rP ∧ (m.sfi v).rT = m.rT ∧ (m.sfi v).rQ = m.rQ ∧ (m.sfi v).O = m.O ∧ (m.sfi v).Pi = m.Pi ∧ (m.sfi v).Z = m.Z ∧ (m.sfi v).F = m.F ∧ (m.sfi v).la = m.la := ⟨rfl, rfl, rfl, rfl, rfl, rfl, rfl, rfl, rfl, rfl, rfl, rfl, rfl, rfl, rfl, rfl, rfl, rfl, rfl, rfl, rfl, rfl, rfl, rfl, rfl, rfl, rfl, rfl, rfl, rfl, rfl, rfl, rfl, rfl⟩
theorem Sse (m : MS) (v : Nat) : (m.sse v).kd = m.kd ∧ (m.sse v).rt = m.rt ∧ (m.sse v).pu = m.pu ∧ (m.sse v).st = m.st ∧ (m.sse v).pl = m.pl ∧ (m.sse v).nu = m.nu ∧ (m.sse v).ky = m.ky ∧ (m.sse v).P = m.P ∧ (m.sse v).cs = m.cs ∧ (m.sse v).fV = m.fV ∧ (m.sse v).lV = m.lV ∧ (m.sse v).it = m.it ∧ (m.sse v).nx = m.nx ∧ (m.sse v).K = m.K ∧ (m.sse v).E = m.E ∧ (m.sse v).nm = m.nm ∧ (m.sse v).fn = m.fn ∧ (m.sse v).im = m.im ∧ (m.sse v).fi = m.fi ∧ (m.sse v).se = v ∧ (m.sse v).sp = m.sp ∧ (m.sse v).fk = m.fk ∧ (m.sse v).fv = m.fv ∧ (m.sse v).N = m.N ∧ (m.sse v).bs = m.bs ∧ (m.sse v).rO = m.rO ∧ (m.sse v).rP = m.rP ∧ (m.sse v).rT = m.rT ∧ (m.sse v).rQ = m.rQ ∧ (m.sse v).O = m.O ∧ (m.sse v).Pi = m.Pi ∧ (m.sse v).Z = m.Z ∧ (m.sse v).F = m.F ∧ (m.sse v).la = m.la := ⟨rfl, rfl, rfl, rfl, rfl, rfl, rfl, rfl, rfl, rfl, rfl, rfl, rfl, rfl, rfl, rfl, rfl, rfl, rfl, rfl, rfl, rfl, rfl, rfl, rfl, rfl, rfl, rfl, rfl, rfl, rfl, rfl, rfl, rfl⟩
theorem Ssp (m : MS) (v : Nat) : (m.ssp v).kd = m.kd ∧ (m.ssp v).rt = m.rt ∧ (m.ssp v).pu = m.pu ∧ (m.ssp v).st = m.st ∧ (m.ssp v).pl = m.pl ∧ (m.ssp v).nu = m.nu ∧ (m.ssp v).ky = m.ky ∧ (m.ssp v).P = m.P ∧ (m.ssp v).cs = m.cs ∧ (m.ssp v).fV = m.fV ∧ (m.ssp v).lV = m.lV ∧ (m.ssp v).it = m.it ∧ (m.ssp v).nx = m.nx ∧ (m.ssp v).K = m.K ∧ (m.ssp v).E = m.E ∧ (m.ssp v).nm = m.nm ∧ (m.ssp v).fn = m.fn ∧ (m.ssp v).im = m.im ∧ (m.ssp v).fi = m.fi ∧ (m.ssp v).se = m.se ∧ (m.ssp v).sp = v ∧ (m.ssp v).fk = m.fk ∧ (m.ssp v).fv = m.fv ∧ (m.ssp v).N = m.N ∧ (m.ssp v).bs = m.bs ∧ (m.ssp v).rO = m.rO ∧ (m.ssp v).rP = m.rP ∧ (m.ssp v).rT = m.rT ∧ (m.ssp v).rQ = m.rQ ∧ (m.ssp v).O = m.O ∧ (m.ssp v).Pi = m.Pi ∧ (m.ssp v).Z = m.Z ∧ (m.ssp v).F = m.F ∧ (m.ssp v).la = m.la := ⟨rfl, rfl, rfl, rfl, rfl, rfl, rfl, rfl, rfl, rfl, rfl, rfl, rfl, rfl, rfl, rfl, rfl, rfl, rfl, rfl, rfl, rfl, rfl, rfl, rfl, rfl, rfl, rfl, rfl, rfl, rfl, rfl, rfl, rfl⟩
theorem Sfk (m : MS) (v : Int64) : (m.sfk v).kd = m.kd ∧ (m.sfk v).rt = m.rt ∧ (m.sfk v).pu = m.pu ∧ (m.sfk v).st = m.st ∧ (m.sfk v).pl = m.pl ∧ (m.sfk v).nu = m.nu ∧ (m.sfk v).ky = m.ky ∧ (m.sfk v).P = m.P ∧ (m.sfk v).cs = m.cs ∧ (m.sfk v).fV = m.fV ∧ (m.sfk v).lV = m.lV ∧ (m.sfk v).it = m.it ∧ (m.sfk v).nx = m.nx ∧ (m.sfk v).K = m.K ∧ (m.sfk v).E = m.E ∧ (m.sfk v).nm = m.nm ∧ (m.sfk v).fn = m.fn ∧ (m.sfk v).im = m.im ∧ (m.sfk v).fi = m.fi ∧ (m.sfk v).se = m.se ∧ (m.sfk v).sp = m.sp ∧ (m.sfk v).fk = v ∧ (m.sfk v).fv = m.fv ∧ (m.sfk v).N = m.N ∧ (m.sfk v).bs = m.bs ∧ (m.sfk v).rO = m.rO ∧ (m.sfk v).rP = m.rP ∧ (m.sfk v).rT = m.rT ∧ (m.sfk v).rQ = m.rQ ∧ (m.sfk v).O = m.O ∧ (m.sfk v).Pi = m.Pi ∧ (m.sfk v).Z = m.Z ∧ (m.sfk v).F = m.F ∧ (m.sfk v).la = m.la := ⟨rfl, rfl, rfl, rfl, rfl, rfl, rfl, rfl, rfl, rfl, rfl, rfl, rfl, rfl, rfl, rfl, rfl, rfl, rfl, rfl, rfl, rfl, rfl, rfl, rfl, rfl, rfl, rfl, rfl, rfl, rfl, rfl, rfl, rfl⟩
theorem Sfv (m : MS) (v : Int32) : (m.sfv v).kd = m.kd ∧ (m.sfv v).rt = m.rt ∧ (m.sfv v).pu = m.pu ∧ (m.sfv v).st = m.st ∧ (m.sfv v).pl = m.pl ∧ (m.sfv v).nu = m.nu ∧ (m.sfv v).ky = m.ky ∧ (m.sfv v).P = m.P ∧ (m.sfv v).cs = m.cs ∧ (m.sfv v).fV = m.fV ∧ (m.sfv v).lV = m.lV ∧ (m.sfv v).it = m.it ∧ (m.sfv v).nx = m.nx ∧ (m.sfv v).K = m.K ∧ (m.sfv v).E = m.E ∧ (m.sfv v).nm = m.nm ∧ (m.sfv v).fn = m.fn ∧ (m.sfv v).im = m.im ∧ (m.sfv v).fi = m.fi ∧ (m.sfv v).se = m.se ∧ (m.sfv v).sp = m.sp ∧ (m.sfv v).fk = m.fk ∧ (m.sfv v).fv = v ∧ (m.sfv v).N = m.N ∧ (m.sfv v).bs = m.bs ∧ (m.sfv v).rO = m.rO ∧ (m.sfv v).rP = m.rP ∧ (m.sfv v).rT = m.rT ∧ (m.sfv v).rQ = m.rQ ∧ (m.sfv v).O = m.O ∧ (m.sfv v).Pi = m.Pi ∧ (m.sfv v).Z = m.Z ∧ (m.sfv v).F = m.F ∧ (m.sfv v).la = m.la := ⟨rfl, rfl, rfl, rfl, rfl, rfl, rfl, rfl, rfl, rfl, rfl, rfl, rfl, rfl, rfl, rfl, rfl, rfl, rfl, rfl, rfl, rfl, rfl, rfl, rfl, rfl, rfl, rfl, rfl, rfl, rfl, rfl, rfl, rfl⟩
theorem SN (m : MS) (v : Nat) : (m.sN v).kd = m.kd ∧ (m.sN v).rt = m.rt ∧ (m.sN v).pu = m.pu ∧ (m.sN v).st = m.st ∧ (m.sN v).pl = m.pl ∧ (m.sN v).nu = m.nu ∧ (m.sN v).ky = m.ky ∧ (m.sN v).P = m.P ∧ (m.sN v).cs = m.cs ∧ (m.sN v).fV = m.fV ∧ (m.sN v).lV = m.lV ∧ (m.sN v).it = m.it ∧ (m.sN v).nx = m.nx ∧ (m.sN v).K = m.K ∧ (m.sN v).E = m.E ∧ (m.sN v).nm = m.nm ∧ (m.sN v).fn = m.fn ∧ (m.sN v).im = m.im ∧ (m.sN v).fi = m.fi ∧ (m.sN v).se = m.se ∧ (m.sN v).sp = m.sp ∧ (m.sN v).fk = m.fk ∧ (m.sN v).fv = m.fv ∧ (m.sN v).N = v ∧ (m.sN v).bs = m.bs ∧ (m.sN v).rO = m.rO ∧ (m.sN v).rP = m.rP ∧ (m.sN v).rT = m.rT ∧ (m.sN v).rQ = m.rQ ∧ (m.sN v).O = m.O ∧ (m.sN v).Pi = m.Pi ∧ (m.sN v).Z = m.Z ∧ (m.sN v).F = m.F ∧ (m.sN v).la = m.la := ⟨rfl, rfl, rfl, rfl, rfl, rfl, rfl, rfl, rfl, rfl, rfl, rfl, rfl, rfl, rfl, rfl, rfl, rfl, rfl, rfl, rfl, rfl, rfl, rfl, rfl, rfl, rfl, rfl, rfl, rfl, rfl, rfl, rfl, rfl⟩
theorem Sbs (m : MS) (v : Nat) : (m.sbs v).kd = m.kd ∧ (m.sbs v).rt = m.rt ∧ (m.sbs v).pu = m.pu ∧ (m.sbs v).st = m.st ∧ (m.sbs v).pl = m.pl ∧ (m.sbs v).nu = m.nu ∧ (m.sbs v).ky = m.ky ∧ (m.sbs v).P = m.P ∧ (m.sbs v).cs = m.cs ∧ (m.sbs v).fV = m.fV ∧ (m.sbs v).lV = m.lV ∧ (m.sbs v).it = m.it ∧ (m.sbs v).nx = m.nx ∧ (m.sbs v).K = m.K ∧ (m.sbs v).E = m.E ∧ (m.sbs v).nm = m.nm ∧ (m.sbs v).fn = m.fn ∧ (m.sbs v).im = m.im ∧ (m.sbs v).fi = m.fi ∧ (m.sbs v).se = m.se ∧ (m.sbs v).sp = m.sp ∧ (m.sbs v).fk = m.fk ∧ (m.sbs v).fv = m.fv ∧ (m.sbs v).N = m.N ∧ (m.sbs v).bs = v ∧ (m.sbs v).rO = m.rO ∧ (m.sbs v).rP = m.rP ∧ (m.sbs v).rT = m.rT ∧ (m.sbs v).rQ = m.rQ ∧ (m.sbs v).O = m.O ∧ (m.sbs v).Pi = m.Pi ∧ (m.sbs v).Z = m.Z ∧ (m.sbs v).F = m.F ∧ (m.sbs v).la = m.la := ⟨rfl, rfl, rfl, rfl, rfl, rfl, rfl, rfl, rfl, rfl, rfl, rfl, rfl, rfl, rfl, rfl, rfl, rfl, rfl, rfl, rfl, rfl, rfl, rfl, rfl, rfl, rfl, rfl, rfl, rfl, rfl, rfl, rfl, rfl⟩
theorem SrO (m : MS) (v : Nat → Int32) : (m.srO v).kd = m.kd ∧ (m.srO v).rt = m.rt ∧ (m.srO v).pu = m.pu ∧ (m.srO v).st = m.st ∧ (m.srO v).pl = m.pl ∧ (m.srO v).nu = m.nu ∧ (m.srO v).ky = m.ky ∧ (m.srO v).P = m.P ∧ (m.srO v).cs = m.cs ∧ (m.srO v).fV = m.fV ∧ (m.srO v).lV = m.lV ∧ (m.srO v).it = m.it ∧ (m.srO v).nx = m.nx ∧ (m.srO v).K = m.K ∧ (m.srO v).E = m.E ∧ (m.srO v).nm = m.nm ∧ (m.srO v).fn = m.fn ∧ (m.srO v).im = m.im ∧ (m.srO v).fi = m.fi ∧ (m.srO v).se = m.se ∧ (m.srO v).sp = m.sp ∧ (m.srO v).fk = m.fk ∧ (m.srO v).fv = m.fv ∧ (m.srO v).N = m.N ∧ (m.srO v).bs = m.bs ∧ (m.srO v).rO = v ∧ (m.srO v).rP = m.rP ∧ (m.srO v).rT = m.rT ∧ (m.srO v).rQ = m.rQ ∧ (m.srO v).O = m.O ∧ (m.srO v).Pi = m.Pi ∧ (m.srO v).Z = m.Z ∧ (m.srO v).F = m.F ∧ (m.srO v).la = m.la := ⟨rfl, rfl, rfl, rfl, rfl, rfl, rfl, rfl, rfl, rfl, rfl, rfl, rfl, rfl, rfl, rfl, rfl, rfl, rfl, rfl, rfl, rfl, rfl, rfl, rfl, rfl, rfl, rfl, rfl, rfl, rfl, rfl, rfl, rfl⟩
theorem SrP (m : MS) (v : Nat → Int32) : (m.srP v).kd = m.kd ∧ (m.srP v).rt = m.rt ∧ (m.srP v).pu = m.pu ∧ (m.srP v).st = m.st ∧ (m.srP v).pl = m.pl ∧ (m.srP v).nu = m.nu ∧ (m.srP v).ky = m.ky ∧ (m.srP v).P = m.P ∧ (m.srP v).cs = m.cs ∧ (m.srP v).fV = m.fV ∧ (m.srP v).lV = m.lV ∧ (m.srP v).it = m.it ∧ (m.srP v).nx = m.nx ∧ (m.srP v).K = m.K ∧ (m.srP v).E = m.E ∧ (m.srP v).nm = m.nm ∧ (m.srP v).fn = m.fn ∧ (m.srP v).im = m.im ∧ (m.srP v).fi = m.fi ∧ (m.srP v).se = m.se ∧ (m.srP v).sp = m.sp ∧ (m.srP v).fk = m.fk ∧ (m.srP v).fv = m.fv ∧ (m.srP v).N = m.N ∧ (m.srP v).bs = m.bs ∧ (m.srP v).rO = m.rO ∧ (m.srP v).rP = v ∧ (m.srP v).rT = m.rT ∧ (m.srP v).rQ = m.rQ ∧ (m.srP v).O = m.O ∧ (m.srP v).Pi = m.Pi ∧ (m.srP v).Z = m.Z ∧ (m.srP v).F = m.F ∧ (m.srP v).la = m.la := ⟨rfl, rfl, rfl, rfl, rfl, rfl, rfl, rfl, rfl, rfl, rfl, rfl, rfl, rfl, rfl, rfl, rfl, rfl, rfl, rfl, rfl, rfl, rfl, rfl, rfl, rfl, rfl, rfl, rfl, rfl, rfl, rfl, rfl, rfl⟩
theorem SrT (m : MS) (v : Nat → Int32) : (m.srT v).kd = m.kd ∧ (m.srT v).rt = m.rt ∧ (m.srT v).pu = m.pu ∧ (m.srT v).st = m.st ∧ (m.srT v).pl = m.pl ∧ (m.srT v).nu = m.nu ∧ (m.srT v).ky = m.ky ∧ (m.srT v).P = m.P ∧ (m.srT v).cs = m.cs ∧ (m.srT v).fV = m.fV ∧ (m.srT v).lV = m.lV ∧ (m.srT v).it = m.it ∧ (m.srT v).nx = m.nx ∧ (m.srT v).K = m.K ∧ (m.srT v).E = m.E ∧ (m.srT v).nm = m.nm ∧ (m.srT v).fn = m.fn ∧ (m.srT v).im = m.im ∧ (m.srT v).fi = m.fi ∧ (m.srT v).se = m.se ∧ (m.srT v).sp = m.sp ∧ (m.srT v).fk = m.fk ∧ (m.srT v).fv = m.fv ∧ (m.srT v).N = m.N ∧ (m.srT v).bs = m.bs ∧ (m.srT v).rO = m.rO ∧ (m.srT v).rP = m.rP ∧ (m.srT v).rT = v ∧ (m.srT v).rQ = m.rQ ∧ (m.srT v).O = m.O ∧ (m.srT v).Pi = m.Pi ∧ (m.srT v).Z = m.Z ∧ (m.srT v).F = m.F ∧ (m.srT v).la = m.la := ⟨rfl, rfl, rfl, rfl, rfl, rfl, rfl, rfl, rfl, rfl, rfl, rfl, rfl, rfl, rfl, rfl, rfl, rfl, rfl, rfl, rfl, rfl, rfl, rfl, rfl, rfl, rfl, rfl, rfl, rfl, rfl, rfl, rfl, rfl⟩
theorem SrQ (m : MS) (v : Nat → Int32) : (m.srQ v).kd = m.kd ∧ (m.srQ v).rt = m.rt ∧ (m.srQ v).pu = m.pu ∧ (m.srQ v).st = m.st ∧ (m.srQ v).pl = m.pl ∧ (m.srQ v).nu = m.nu ∧ (m.srQ v).ky = m.ky ∧ (m.srQ v).P = m.P ∧ (m.srQ v).cs = m.cs ∧ (m.srQ v).fV = m.fV ∧ (m.srQ v).lV = m.lV ∧ (m.srQ v).it = m.it ∧ (m.srQ v).nx = m.nx ∧ (m.srQ v).K = m.K ∧ (m.srQ v).E = m.E ∧ (m.srQ v).nm = m.nm ∧ (m.srQ v).fn = m.fn ∧ (m.srQ v).im = m.im ∧ (m.srQ v).fi = m.fi ∧ (m.srQ v).se = m.se ∧ (m.srQ v).sp = m.sp ∧ (m.srQ v).fk = m.fk ∧ (m.srQ v).fv = m.fv ∧ (m.srQ v).N = m.N ∧ (m.srQ v).bs = m.bs ∧ (m.srQ v).rO = m.rO ∧ (m.srQ v).rP = m.rP ∧ (m.srQ v).rT = m.rT ∧ (m.srQ v).rQ = v ∧ (m.srQ v).O = m.O ∧ (m.srQ v).Pi = m.Pi ∧ (m.srQ v).Z = m.Z ∧ (m.srQ v).F = m.F ∧ (m.srQ v).la = m.la := ⟨rfl, rfl, rfl, rfl, rfl, rfl, rfl, rfl, rfl, rfl, rfl, rfl, rfl, rfl, rfl, rfl, rfl, rfl, rfl, rfl, rfl, rfl, rfl, rfl, rfl, rfl, rfl, rfl, rfl, rfl, rfl, rfl, rfl, rfl⟩
theorem SO (m : MS) (v : Nat → Int32) : (m.sO v).kd = m.kd ∧ (m.sO v).rt = m.rt ∧ (m.sO v).pu = m.pu ∧ (m.sO v).st = m.st ∧ (m.sO v).pl = m.pl ∧ (m.sO v).nu = m.nu ∧ (m.sO v).ky = m.ky ∧ (m.sO v).P = m.P ∧ (m.sO v).cs = m.cs ∧ (m.sO v).fV = m.fV ∧ (m.sO v).lV = m.lV ∧ (m.sO v).it = m.it ∧ (m.sO v).nx = m.nx ∧ (m.sO v).K = m.K ∧ (m.sO v).E = m.E ∧ (m.sO v).nm = m.nm ∧ (m.sO v).fn = m.fn ∧ (m.sO v).im = m.im ∧ (m.sO v).fi = m.fi ∧ (m.sO v).se = m.se ∧ (m.sO v).sp = m.sp ∧ (m.sO v).fk = m.fk ∧ (m.sO v).fv = m.fv ∧ (m.sO v).N = m.N ∧ (m.sO v).bs = m.bs ∧ (m.sO v).rO = m.rO ∧ (m.sO v).rP = m.rP ∧ (m.sO v).rT = m.rT ∧ (m.sO v).rQ = m.rQ ∧ (m.sO v).O = v ∧ (m.sO v).Pi = m.Pi ∧ (m.sO v).Z = m.Z ∧ (m.sO v).F = m.F ∧ (m.sO v).la = m.la := ⟨rfl, rfl, rfl, rfl, rfl, rfl, rfl, rfl, rfl, rfl, rfl, rfl, rfl, rfl, rfl, rfl, rfl, rfl, rfl, rfl, rfl, rfl, rfl, rfl, rfl, rfl, rfl, rfl, rfl, rfl, rfl, rfl, rfl, rfl⟩
theorem SPi (m : MS) (v : Nat → Int32) : (m.sPi v).kd = m.kd ∧ (m.sPi v).rt = m.rt ∧ (m.sPi v).pu = m.pu ∧ (m.sPi v).st = m.st ∧ (m.sPi v).pl = m.pl ∧ (m.sPi v).nu = m.nu ∧ (m.sPi v).ky = m.ky ∧ (m.sPi v).P = m.P ∧ (m.sPi v).cs = m.cs ∧ (m.sPi v).fV = m.fV ∧ (m.sPi v).lV = m.lV ∧ (m.sPi v).it = m.it ∧ (m.sPi v).nx = m.nx ∧ (m.sPi v).K = m.K ∧ (m.sPi v).E = m.E ∧ (m.sPi v).nm = m.nm ∧ (m.sPi v).fn = m.fn ∧ (m.sPi v).im = m.im ∧ (m.sPi v).fi = m.fi ∧ (m.sPi v).se = m.se ∧ (m.sPi v).sp = m.sp ∧ (m.sPi v).fk = m.fk ∧ (m.sPi v).fv = m.fv ∧ (m.sPi v).N = m.N ∧ (m.sPi v).bs = m.bs ∧ (m.sPi v).rO = m.rO ∧ (m.sPi v).rP = m.rP ∧ (m.sPi v).rT = m.rT ∧ (m.sPi v).rQ = m.rQ ∧ (m.sPi v).O = m.O ∧ (m.sPi v).Pi = v ∧ (m.sPi v).Z = m.Z ∧ (m.sPi v).F = m.F ∧ (m.sPi v).la = m.la := ⟨rfl, rfl, rfl, rfl, rfl, rfl, rfl, rfl, rfl, rfl, rfl, rfl, rfl, rfl, rfl, rfl, rfl, rfl, rfl, rfl, rfl, rfl, rfl, rfl, rfl, rfl, rfl, rfl, rfl, rfl, rfl, rfl, rfl, rfl⟩
theorem SZ (m : MS) (v : Nat → Int32) : (m.sZ v).kd = m.kd ∧ (m.sZ v).rt = m.rt ∧ (m.sZ v).pu = m.pu ∧ (m.sZ v).st = m.st ∧ (m.sZ v).pl = m.pl ∧ (m.sZ v).nu = m.nu ∧ (m.sZ v).ky = m.ky ∧ (m.sZ v).P = m.P ∧ (m.sZ v).cs = m.cs ∧ (m.sZ v).fV = m.fV ∧ (m.sZ v).lV = m.lV ∧ (m.sZ v).it = m.it ∧ (m.sZ v).nx = m.nx ∧ (m.sZ v).K = m.K ∧ (m.sZ v).E = m.E ∧ (m.sZ v).nm = m.nm ∧ (m.sZ v).fn = m.fn ∧ (m.sZ v).im = m.im ∧ (m.sZ v).fi = m.fi ∧ (m.sZ v).se = m.se ∧ (m.sZ v).sp = m.sp ∧ (m.sZ v).fk = m.fk ∧ (m.sZ v).fv = m.fv ∧ (m.sZ v).N = m.N ∧ (m.sZ v).bs = m.bs ∧ (m.sZ v).rO = m.rO ∧ (m.sZ v).rP = m.rP ∧ (m.sZ v).rT = m.rT ∧ (m.sZ v).rQ = m.rQ ∧ (m.sZ v).O = m.O ∧ (m.sZ v).Pi = m.Pi ∧ (m.sZ v).Z = v ∧ (m.sZ v).F = m.F ∧ (m.sZ v).la = m.la := ⟨rfl, rfl, rfl, rfl, rfl, rfl, rfl, rfl, rfl, rfl, rfl, rfl, rfl, rfl, rfl, rfl, rfl, rfl, rfl, rfl, rfl, rfl, rfl, rfl, rfl, rfl, rfl, rfl, rfl, rfl, rfl, rfl, rfl, rfl⟩
theorem SF (m : MS) (v : Nat → Int32) : (m.sF v).kd = m.kd ∧ (m.sF v).rt = m.rt ∧ (m.sF v).pu = m.pu ∧ (m.sF v).st = m.st ∧ (m.sF v).pl = m.pl ∧ (m.sF v).nu = m.nu ∧ (m.sF v).ky = m.ky ∧ (m.sF v).P = m.P ∧ (m.sF v).cs = m.cs ∧ (m.sF v).fV = m.fV ∧ (m.sF v).lV = m.lV ∧ (m.sF v).it = m.it ∧ (m.sF v).nx = m.nx ∧ (m.sF v).K = m.K ∧ (m.sF v).E = m.E ∧ (m.sF v).nm = m.nm ∧ (m.sF v).fn = m.fn ∧ (m.sF v).im = m.im ∧ (m.sF v).fi = m.fi ∧ (m.sF v).se = m.se ∧ (m.sF v).sp = m.sp ∧ (m.sF v).fk = m.fk ∧ (m.sF v).fv = m.fv ∧ (m.sF v).N = m.N ∧ (m.sF v).bs = m.bs ∧ (m.sF v).rO = m.rO ∧ (m.sF v).rP = m.rP ∧ (m.sF v).rT = m.rT ∧ (m.sF v).rQ = m.rQ ∧ (m.sF v).O = m.O ∧ (m.sF v).Pi = m.Pi ∧ (m.sF v).Z = m.Z ∧ (m.sF v).F = v ∧ (m.sF v).la = m.la := ⟨rfl, rfl, rfl, rfl, rfl, rfl, rfl, rfl, rfl, rfl, rfl, rfl, rfl, rfl, rfl, rfl, rfl, rfl, rfl, rfl, rfl, rfl, rfl, rfl, rfl, rfl, rfl, rfl, rfl, rfl, rfl, rfl, rfl, rfl⟩
theorem Sla (m : MS) (v : Int32) : (m.sla v).kd = m.kd ∧ (m.sla v).rt = m.rt ∧ (m.sla v).pu = m.pu ∧ (m.sla v).st = m.st ∧ (m.sla v).pl = m.pl ∧ (m.sla v).nu = m.nu ∧ (m.sla v).ky = m.ky ∧ (m.sla v).P = m.P ∧ (m.sla v).cs = m.cs ∧ (m.sla v).fV = m.fV ∧ (m.sla v).lV = m.lV ∧ (m.sla v).it = m.it ∧ (m.sla v).nx = m.nx ∧ (m.sla v).K = m.K ∧ (m.sla v).E = m.E ∧ (m.sla v).nm = m.nm ∧ (m.sla v).fn = m.fn ∧ (m.sla v).im = m.im ∧ (m.sla v).fi = m.fi ∧ (m.sla v).se = m.se ∧ (m.sla v).sp = m.sp ∧ (m.sla v).fk = m.fk ∧ (m.sla v).fv = m.fv ∧ (m.sla v).N = m.N ∧ (m.sla v).bs = m.bs ∧ (m.sla v).rO = m.rO ∧ (m.sla v).rP = m.rP ∧ (m.sla v).rT = m.rT ∧ (m.sla v).rQ = m.rQ ∧ (m.sla v).O = m.O ∧ (m.sla v).Pi = m.Pi ∧ (m.sla v).Z = m.Z ∧ (m.sla v).F = m.F ∧ (m.sla v).la = v := ⟨rfl, rfl, rfl, rfl, rfl, rfl, rfl, rfl, rfl, rfl, rfl, rfl, rfl, rfl, rfl, rfl, rfl, rfl, rfl, rfl, rfl, rfl, rfl, rfl, rfl, rfl, rfl, rfl, rfl, rfl, rfl, rfl, rfl, rfl⟩
def mlI (h : AH) (m : MS) : Nat → Nat → Int32 := fun f a => if f = 43 then (if a = 8 then nI m.K else h.1.1 f a) else if f = 44 then (if a = 8 then nI m.E else h.1.1 f a) else if f = 50 then (if a = 8 then nI m.nm else h.1.1 f a) else if f = 51 then (if a = 8 then en m.fn else h.1.1 f a) else if f = 56 then (if a = 8 then nI m.im else h.1.1 f a) else if f = 57 then (if a = 8 then en m.fi else h.1.1 f a) else if f = 58 then (if a = 8 then nI m.se else h.1.1 f a) else if f = 64 then (if a = 8 then m.la else h.1.1 f a) else if f = 65 then (if a = 8 then nI m.sp else h.1.1 f a) else if f = 67 then (if a = 8 then m.fv else h.1.1 f a) else if f = 72 then (if a = 8 then nI m.N else h.1.1 f a) else if f = 73 then (if a = 8 then en m.bs else h.1.1 f a) else h.1.1 f a
def mlL (h : AH) (m : MS) : Nat → Nat → Int64 := fun f a => if f = 66 then (if a = 8 then m.fk else h.1.2.1 f a) else h.1.2.1 f a
def mlA (h : AH) (m : MS) : Nat → Nat → Int32 := fun a i => if a = 9 then nI (m.kd i) else if a = 10 then en (m.rt i) else if a = 13 then nI (m.pl i) else if a = 14 then nI (m.nu i) else if a = 16 then en (m.P.1 (i + 1)) else if a = 17 then en (m.P.2.1 (i + 1)) else if a = 18 then en (m.P.2.2 (i + 1)) else if a = 19 then nI (m.cs (i + 1)) else if a = 20 then en (m.fV (i + 1)) else if a = 21 then en (m.lV (i + 1)) else if a = 23 then en (m.nx (i + 1)) else if a = 24 then m.O i else if a = 26 then m.Pi i else if a = 27 then m.Z i else if a = 28 then m.F i else if a = 29 then m.rO i else if a = 30 then m.rP i else if a = 31 then m.rT i else if a = 32 then m.rQ i else h.2.1.1 a i
def mlB (h : AH) (m : MS) : Nat → Nat → Int64 := fun a i => if a = 11 then m.pu i else if a = 12 then m.st i else if a = 15 then m.ky (i + 1) else if a = 22 then m.it (i + 1) else h.2.1.2.1 a i
def ml (h : AH) (m : MS) : AH := ((mlI h m, mlL h m, h.1.2.2), (mlA h m, mlB h m, h.2.1.2.2), h.2.2)
theorem Hml (h : AH) (m : MS) : (fI (ml h m) 43 8 = nI m.K) ∧ (fI (ml h m) 44 8 = nI m.E) ∧ (fI (ml h m) 50 8 = nI m.nm) ∧ (fI (ml h m) 51 8 = en m.fn) ∧ (fI (ml h m) 56 8 = nI m.im) ∧ (fI (ml h m) 57 8 = en m.fi) ∧ (fI (ml h m) 58 8 = nI m.se) ∧ (fI (ml h m) 64 8 = m.la) ∧ (fI (ml h m) 65 8 = nI m.sp) ∧ (fI (ml h m) 67 8 = m.fv) ∧ (fI (ml h m) 72 8 = nI m.N) ∧ (fI (ml h m) 73 8 = en m.bs) ∧ (fL (ml h m) 66 8 = m.fk) ∧ (∀ i, eI (ml h m) 9 i = nI (m.kd i)) ∧ (∀ i, eI (ml h m) 10 i = en (m.rt i)) ∧ (∀ i, eI (ml h m) 13 i = nI (m.pl i)) ∧ (∀ i, eI (ml h m) 14 i = nI (m.nu i)) ∧ (∀ i, eI (ml h m) 16 i = en (m.P.1 (i + 1))) ∧ (∀ i, eI (ml h m) 17 i = en (m.P.2.1 (i + 1))) ∧ (∀ i, eI (ml h m) 18 i = en (m.P.2.2 (i + 1))) ∧ (∀ i, eI (ml h m) 19 i = nI (m.cs (i + 1))) ∧ (∀ i, eI (ml h m) 20 i = en (m.fV (i + 1))) ∧ (∀ i, eI (ml h m) 21 i = en (m.lV (i + 1))) ∧ (∀ i, eI (ml h m) 23 i = en (m.nx (i + 1))) ∧ (∀ i, eI (ml h m) 24 i = m.O i) ∧ (∀ i, eI (ml h m) 26 i = m.Pi i) ∧ (∀ i, eI (ml h m) 27 i = m.Z i) ∧ (∀ i, eI (ml h m) 28 i = m.F i) ∧ (∀ i, eI (ml h m) 29 i = m.rO i) ∧ (∀ i, eI (ml h m) 30 i = m.rP i) ∧ (∀ i, eI (ml h m) 31 i = m.rT i) ∧ (∀ i, eI (ml h m) 32 i = m.rQ i) ∧ (∀ i, eL (ml h m) 11 i = m.pu i) ∧ (∀ i, eL (ml h m) 12 i = m.st i) ∧ (∀ i, eL (ml h m) 15 i = m.ky (i + 1)) ∧ (∀ i, eL (ml h m) 22 i = m.it (i + 1)) ∧ (∀ f a, fR (ml h m) f a = fR h f a) ∧ (∀ f a, eR (ml h m) f a = eR h f a) ∧ (∀ a, tg (ml h m) a = tg h a) ∧ (∀ a, ln (ml h m) a = ln h a) ∧ (nn (ml h m) = nn h) ∧ (sl (ml h m) = sl h) := ⟨rfl, rfl, rfl, rfl, rfl, rfl, rfl, rfl, rfl, rfl, rfl, rfl, rfl, fun _ => rfl, fun _ => rfl, fun _ => rfl, fun _ => rfl, fun _ => rfl, fun _ => rfl, fun _ => rfl, fun _ => rfl, fun _ => rfl, fun _ => rfl, fun _ => rfl, fun _ => rfl, fun _ => rfl, fun _ => rfl, fun _ => rfl, fun _ => rfl, fun _ => rfl, fun _ => rfl, fun _ => rfl, fun _ => rfl, fun _ => rfl, fun _ => rfl, fun _ => rfl, fun _ _ => rfl, fun _ _ => rfl, fun _ => rfl, fun _ => rfl, rfl, rfl⟩
theorem Hmc (h : AH) (m : MS) : (∀ a, fI (ml h m) 2 a = fI h 2 a) ∧ (∀ a, fI (ml h m) 3 a = fI h 3 a) ∧ (∀ a, fI (ml h m) 4 a = fI h 4 a) ∧ (∀ a, fI (ml h m) 6 a = fI h 6 a) ∧ (∀ a, fI (ml h m) 11 a = fI h 11 a) ∧ (∀ a, fI (ml h m) 12 a = fI h 12 a) ∧ (∀ a, fI (ml h m) 14 a = fI h 14 a) ∧ (∀ a, fI (ml h m) 15 a = fI h 15 a) ∧ (∀ a, fI (ml h m) 16 a = fI h 16 a) ∧ (∀ a, fI (ml h m) 17 a = fI h 17 a) ∧ (∀ a, fI (ml h m) 20 a = fI h 20 a) ∧ (∀ a, fI (ml h m) 21 a = fI h 21 a) ∧ (∀ a, fI (ml h m) 22 a = fI h 22 a) ∧ (∀ a, fI (ml h m) 25 a = fI h 25 a) ∧ (∀ a, fI (ml h m) 29 a = fI h 29 a) ∧ (∀ a, fI (ml h m) 30 a = fI h 30 a) ∧ (∀ a, fI (ml h m) 33 a = fI h 33 a) ∧ (∀ a, fI (ml h m) 36 a = fI h 36 a) ∧ (∀ a, fL (ml h m) 5 a = fL h 5 a) ∧ (∀ a, fL (ml h m) 24 a = fL h 24 a) ∧ (∀ i, eI (ml h m) 2 i = eI h 2 i) ∧ (∀ i, eI (ml h m) 4 i = eI h 4 i) ∧ (∀ i, eI (ml h m) 5 i = eI h 5 i) ∧ (∀ i, eI (ml h m) 6 i = eI h 6 i) ∧ (∀ i, eI (ml h m) 7 i = eI h 7 i) := ⟨fun _ => rfl, fun _ => rfl, fun _ => rfl, fun _ => rfl, fun _ => rfl, fun _ => rfl, fun _ => rfl, fun _ => rfl, fun _ => rfl, fun _ => rfl, fun _ => rfl, fun _ => rfl, fun _ => rfl, fun _ => rfl, fun _ => rfl, fun _ => rfl, fun _ => rfl, fun _ => rfl, fun _ => rfl, fun _ => rfl, fun _ => rfl, fun _ => rfl, fun _ => rfl, fun _ => rfl, fun _ => rfl⟩
theorem Hml_L (h : AH) (m : MS) {a : Nat} (ha : 32 < a) (i : Nat) : eL (ml h m) a i = eL h a i := by
  show mlB h m a i = _
  unfold mlB
  rw [if_neg (by omega), if_neg (by omega), if_neg (by omega), if_neg (by omega)]
  rfl
theorem ml_K (h : AH) (m : MS) (v : Nat) : wI (ml h m) 43 8 (nI v) = ml h (m.sK v) := by
  have e : u2 (mlI h m) 43 8 (nI v) = mlI h (m.sK v) := by
    funext f a
    unfold u2 mlI
    by_cases h1 : f = 43
    · subst h1
      by_cases h2 : a = 8
      · subst h2; rfl
      · simp only [h2, if_false, if_true] <;> rfl
    · simp only [h1, if_false] <;> rfl
  exact congrArg (fun q => ((q, mlL h m, h.1.2.2), (mlA h m, mlB h m, h.2.1.2.2), h.2.2)) e
theorem ml_E (h : AH) (m : MS) (v : Nat) : wI (ml h m) 44 8 (nI v) = ml h (m.sE v) := by
  have e : u2 (mlI h m) 44 8 (nI v) = mlI h (m.sE v) := by
    funext f a
    unfold u2 mlI
    by_cases h1 : f = 44
    · subst h1
      by_cases h2 : a = 8
      · subst h2; rfl
      · simp only [h2, if_false, if_true] <;> rfl
    · simp only [h1, if_false] <;> rfl
  exact congrArg (fun q => ((q, mlL h m, h.1.2.2), (mlA h m, mlB h m, h.2.1.2.2), h.2.2)) e
theorem ml_nm (h : AH) (m : MS) (v : Nat) : wI (ml h m) 50 8 (nI v) = ml h (m.snm v) := by
  have e : u2 (mlI h m) 50 8 (nI v) = mlI h (m.snm v) := by
    funext f a
    unfold u2 mlI
    by_cases h1 : f = 50
    · subst h1
      by_cases h2 : a = 8
      · subst h2; rfl
      · simp only [h2, if_false, if_true] <;> rfl
    · simp only [h1, if_false] <;> rfl
  exact congrArg (fun q => ((q, mlL h m, h.1.2.2), (mlA h m, mlB h m, h.2.1.2.2), h.2.2)) e
theorem ml_fn (h : AH) (m : MS) (v : Nat) : wI (ml h m) 51 8 (en v) = ml h (m.sfn v) := by
  have e : u2 (mlI h m) 51 8 (en v) = mlI h (m.sfn v) := by
    funext f a
    unfold u2 mlI
    by_cases h1 : f = 51
    · subst h1
      by_cases h2 : a = 8
      · subst h2; rfl
      · simp only [h2, if_false, if_true] <;> rfl
    · simp only [h1, if_false] <;> rfl
  exact congrArg (fun q => ((q, mlL h m, h.1.2.2), (mlA h m, mlB h m, h.2.1.2.2), h.2.2)) e
theorem ml_im (h : AH) (m : MS) (v : Nat) : wI (ml h m) 56 8 (nI v) = ml h (m.sim v) := by
  have e : u2 (mlI h m) 56 8 (nI v) = mlI h (m.sim v) := by
    funext f a
    unfold u2 mlI
    by_cases h1 : f = 56
    · subst h1
      by_cases h2 : a = 8
      · subst h2; rfl
      · simp only [h2, if_false, if_true] <;> rfl
    · simp only [h1, if_false] <;> rfl
  exact congrArg (fun q => ((q, mlL h m, h.1.2.2), (mlA h m, mlB h m, h.2.1.2.2), h.2.2)) e
theorem ml_fi (h : AH) (m : MS) (v : Nat) : wI (ml h m) 57 8 (en v) = ml h (m.sfi v) := by
  have e : u2 (mlI h m) 57 8 (en v) = mlI h (m.sfi v) := by
    funext f a
    unfold u2 mlI
    by_cases h1 : f = 57
    · subst h1
      by_cases h2 : a = 8
      · subst h2; rfl
      · simp only [h2, if_false, if_true] <;> rfl
    · simp only [h1, if_false] <;> rfl
  exact congrArg (fun q => ((q, mlL h m, h.1.2.2), (mlA h m, mlB h m, h.2.1.2.2), h.2.2)) e
theorem ml_se (h : AH) (m : MS) (v : Nat) : wI (ml h m) 58 8 (nI v) = ml h (m.sse v) := by
  have e : u2 (mlI h m) 58 8 (nI v) = mlI h (m.sse v) := by
    funext f a
    unfold u2 mlI
    by_cases h1 : f = 58
    · subst h1
      by_cases h2 : a = 8
      · subst h2; rfl
      · simp only [h2, if_false, if_true] <;> rfl
    · simp only [h1, if_false] <;> rfl
  exact congrArg (fun q => ((q, mlL h m, h.1.2.2), (mlA h m, mlB h m, h.2.1.2.2), h.2.2)) e
theorem ml_la (h : AH) (m : MS) (v : Int32) : wI (ml h m) 64 8 v = ml h (m.sla v) := by
  have e : u2 (mlI h m) 64 8 v = mlI h (m.sla v) := by
    funext f a
    unfold u2 mlI
    by_cases h1 : f = 64
    · subst h1
      by_cases h2 : a = 8
      · subst h2; rfl
      · simp only [h2, if_false, if_true] <;> rfl
    · simp only [h1, if_false] <;> rfl
  exact congrArg (fun q => ((q, mlL h m, h.1.2.2), (mlA h m, mlB h m, h.2.1.2.2), h.2.2)) e
theorem ml_sp (h : AH) (m : MS) (v : Nat) : wI (ml h m) 65 8 (nI v) = ml h (m.ssp v) := by
  have e : u2 (mlI h m) 65 8 (nI v) = mlI h (m.ssp v) := by
    funext f a
    unfold u2 mlI
    by_cases h1 : f = 65
    · subst h1
      by_cases h2 : a = 8
      · subst h2; rfl
      · simp only [h2, if_false, if_true] <;> rfl
    · simp only [h1, if_false] <;> rfl
  exact congrArg (fun q => ((q, mlL h m, h.1.2.2), (mlA h m, mlB h m, h.2.1.2.2), h.2.2)) e
theorem ml_fv (h : AH) (m : MS) (v : Int32) : wI (ml h m) 67 8 v = ml h (m.sfv v) := by
  have e : u2 (mlI h m) 67 8 v = mlI h (m.sfv v) := by
    funext f a
    unfold u2 mlI
    by_cases h1 : f = 67
    · subst h1
      by_cases h2 : a = 8
      · subst h2; rfl
      · simp only [h2, if_false, if_true] <;> rfl
    · simp only [h1, if_false] <;> rfl
  exact congrArg (fun q => ((q, mlL h m, h.1.2.2), (mlA h m, mlB h m, h.2.1.2.2), h.2.2)) e
theorem ml_N (h : AH) (m : MS) (v : Nat) : wI (ml h m) 72 8 (nI v) = ml h (m.sN v) := by
  have e : u2 (mlI h m) 72 8 (nI v) = mlI h (m.sN v) := by
    funext f a
    unfold u2 mlI
    by_cases h1 : f = 72
    · subst h1
      by_cases h2 : a = 8
      · subst h2; rfl
      · simp only [h2, if_false, if_true] <;> rfl
    · simp only [h1, if_false] <;> rfl
  exact congrArg (fun q => ((q, mlL h m, h.1.2.2), (mlA h m, mlB h m, h.2.1.2.2), h.2.2)) e
theorem ml_bs (h : AH) (m : MS) (v : Nat) : wI (ml h m) 73 8 (en v) = ml h (m.sbs v) := by
  have e : u2 (mlI h m) 73 8 (en v) = mlI h (m.sbs v) := by
    funext f a
    unfold u2 mlI
    by_cases h1 : f = 73
    · subst h1
      by_cases h2 : a = 8
      · subst h2; rfl
      · simp only [h2, if_false, if_true] <;> rfl
    · simp only [h1, if_false] <;> rfl
  exact congrArg (fun q => ((q, mlL h m, h.1.2.2), (mlA h m, mlB h m, h.2.1.2.2), h.2.2)) e
theorem ml_fk (h : AH) (m : MS) (v : Int64) : wL (ml h m) 66 8 v = ml h (m.sfk v) := by
  have e : u2 (mlL h m) 66 8 v = mlL h (m.sfk v) := by
    funext f a
    unfold u2 mlL
    by_cases h1 : f = 66
    · subst h1
      by_cases h2 : a = 8
      · subst h2; rfl
      · simp only [h2, if_false, if_true] <;> rfl
    · simp only [h1, if_false] <;> rfl
  exact congrArg (fun q => ((mlI h m, q, h.1.2.2), (mlA h m, mlB h m, h.2.1.2.2), h.2.2)) e
theorem ml_kd (h : AH) (m : MS) {k : Nat} (v : Nat) : sI (ml h m) 9 k (nI v) = ml h (m.skd (u1 m.kd k v)) := by
  have e : u2 (mlA h m) 9 k (nI v) = mlA h (m.skd (u1 m.kd k v)) := by
    funext a i
    by_cases h1 : a = 9
    · subst h1
      show (if i = k then (nI v) else nI (m.kd i)) = nI ((u1 m.kd k v) i)
      unfold u1
      by_cases h2 : i = k
      · simp only [h2, if_true]
      · simp only [h2, if_false]
    · unfold u2 mlA
      simp only [h1, if_false] <;> rfl
  exact congrArg (fun q => ((mlI h m, mlL h m, h.1.2.2), (q, mlB h m, h.2.1.2.2), h.2.2)) e
theorem ml_rt (h : AH) (m : MS) {k : Nat} (v : Nat) : sI (ml h m) 10 k (en v) = ml h (m.srt (u1 m.rt k v)) := by
  have e : u2 (mlA h m) 10 k (en v) = mlA h (m.srt (u1 m.rt k v)) := by
    funext a i
    by_cases h1 : a = 10
    · subst h1
      show (if i = k then (en v) else en (m.rt i)) = en ((u1 m.rt k v) i)
      unfold u1
      by_cases h2 : i = k
      · simp only [h2, if_true]
      · simp only [h2, if_false]
    · unfold u2 mlA
      simp only [h1, if_false] <;> rfl
  exact congrArg (fun q => ((mlI h m, mlL h m, h.1.2.2), (q, mlB h m, h.2.1.2.2), h.2.2)) e
theorem ml_pl (h : AH) (m : MS) {k : Nat} (v : Nat) : sI (ml h m) 13 k (nI v) = ml h (m.spl (u1 m.pl k v)) := by
  have e : u2 (mlA h m) 13 k (nI v) = mlA h (m.spl (u1 m.pl k v)) := by
    funext a i
    by_cases h1 : a = 13
    · subst h1
      show (if i = k then (nI v) else nI (m.pl i)) = nI ((u1 m.pl k v) i)
      unfold u1
      by_cases h2 : i = k
      · simp only [h2, if_true]
      · simp only [h2, if_false]
    · unfold u2 mlA
      simp only [h1, if_false] <;> rfl
  exact congrArg (fun q => ((mlI h m, mlL h m, h.1.2.2), (q, mlB h m, h.2.1.2.2), h.2.2)) e
theorem ml_nu (h : AH) (m : MS) {k : Nat} (v : Nat) : sI (ml h m) 14 k (nI v) = ml h (m.snu (u1 m.nu k v)) := by
  have e : u2 (mlA h m) 14 k (nI v) = mlA h (m.snu (u1 m.nu k v)) := by
    funext a i
    by_cases h1 : a = 14
    · subst h1
      show (if i = k then (nI v) else nI (m.nu i)) = nI ((u1 m.nu k v) i)
      unfold u1
      by_cases h2 : i = k
      · simp only [h2, if_true]
      · simp only [h2, if_false]
    · unfold u2 mlA
      simp only [h1, if_false] <;> rfl
  exact congrArg (fun q => ((mlI h m, mlL h m, h.1.2.2), (q, mlB h m, h.2.1.2.2), h.2.2)) e
theorem ml_cs (h : AH) (m : MS) {k : Nat} (hk : 1 ≤ k) (v : Nat) : sI (ml h m) 19 (k - 1) (nI v) = ml h (m.scs (u1 m.cs k v)) := by
  have e : u2 (mlA h m) 19 (k - 1) (nI v) = mlA h (m.scs (u1 m.cs k v)) := by
    funext a i
    by_cases h1 : a = 19
    · subst h1
      show (if i = (k - 1) then (nI v) else nI (m.cs (i + 1))) = nI ((u1 m.cs k v) (i + 1))
      unfold u1
      by_cases h2 : i = (k - 1)
      · rw [if_pos h2, if_pos (by omega)]
      · rw [if_neg h2, if_neg (by omega)]
    · unfold u2 mlA
      simp only [h1, if_false] <;> rfl
  exact congrArg (fun q => ((mlI h m, mlL h m, h.1.2.2), (q, mlB h m, h.2.1.2.2), h.2.2)) e
theorem ml_fV (h : AH) (m : MS) {k : Nat} (hk : 1 ≤ k) (v : Nat) : sI (ml h m) 20 (k - 1) (en v) = ml h (m.sfV (u1 m.fV k v)) := by
  have e : u2 (mlA h m) 20 (k - 1) (en v) = mlA h (m.sfV (u1 m.fV k v)) := by
    funext a i
    by_cases h1 : a = 20
    · subst h1
      show (if i = (k - 1) then (en v) else en (m.fV (i + 1))) = en ((u1 m.fV k v) (i + 1))
      unfold u1
      by_cases h2 : i = (k - 1)
      · rw [if_pos h2, if_pos (by omega)]
      · rw [if_neg h2, if_neg (by omega)]
    · unfold u2 mlA
      simp only [h1, if_false] <;> rfl
  exact congrArg (fun q => ((mlI h m, mlL h m, h.1.2.2), (q, mlB h m, h.2.1.2.2), h.2.2)) e
theorem ml_lV (h : AH) (m : MS) {k : Nat} (hk : 1 ≤ k) (v : Nat) : sI (ml h m) 21 (k - 1) (en v) = ml h (m.slV (u1 m.lV k v)) := by
  have e : u2 (mlA h m) 21 (k - 1) (en v) = mlA h (m.slV (u1 m.lV k v)) := by
    funext a i
    by_cases h1 : a = 21
    · subst h1
      show (if i = (k - 1) then (en v) else en (m.lV (i + 1))) = en ((u1 m.lV k v) (i + 1))
      unfold u1
      by_cases h2 : i = (k - 1)
      · rw [if_pos h2, if_pos (by omega)]
      · rw [if_neg h2, if_neg (by omega)]
    · unfold u2 mlA
      simp only [h1, if_false] <;> rfl
  exact congrArg (fun q => ((mlI h m, mlL h m, h.1.2.2), (q, mlB h m, h.2.1.2.2), h.2.2)) e
theorem ml_nx (h : AH) (m : MS) {k : Nat} (hk : 1 ≤ k) (v : Nat) : sI (ml h m) 23 (k - 1) (en v) = ml h (m.snx (u1 m.nx k v)) := by
  have e : u2 (mlA h m) 23 (k - 1) (en v) = mlA h (m.snx (u1 m.nx k v)) := by
    funext a i
    by_cases h1 : a = 23
    · subst h1
      show (if i = (k - 1) then (en v) else en (m.nx (i + 1))) = en ((u1 m.nx k v) (i + 1))
      unfold u1
      by_cases h2 : i = (k - 1)
      · rw [if_pos h2, if_pos (by omega)]
      · rw [if_neg h2, if_neg (by omega)]
    · unfold u2 mlA
      simp only [h1, if_false] <;> rfl
  exact congrArg (fun q => ((mlI h m, mlL h m, h.1.2.2), (q, mlB h m, h.2.1.2.2), h.2.2)) e
theorem ml_O (h : AH) (m : MS) {k : Nat} (v : Int32) : sI (ml h m) 24 k v = ml h (m.sO (u1 m.O k v)) := by
  have e : u2 (mlA h m) 24 k v = mlA h (m.sO (u1 m.O k v)) := by
    funext a i
    by_cases h1 : a = 24
    · subst h1
      show (if i = k then v else m.O i) = (u1 m.O k v) i
      unfold u1
      by_cases h2 : i = k
      · simp only [h2, if_true]
      · simp only [h2, if_false]
    · unfold u2 mlA
      simp only [h1, if_false] <;> rfl
  exact congrArg (fun q => ((mlI h m, mlL h m, h.1.2.2), (q, mlB h m, h.2.1.2.2), h.2.2)) e
theorem ml_Pi (h : AH) (m : MS) {k : Nat} (v : Int32) : sI (ml h m) 26 k v = ml h (m.sPi (u1 m.Pi k v)) := by
  have e : u2 (mlA h m) 26 k v = mlA h (m.sPi (u1 m.Pi k v)) := by
    funext a i
    by_cases h1 : a = 26
    · subst h1
      show (if i = k then v else m.Pi i) = (u1 m.Pi k v) i
      unfold u1
      by_cases h2 : i = k
      · simp only [h2, if_true]
      · simp only [h2, if_false]
    · unfold u2 mlA
      simp only [h1, if_false] <;> rfl
  exact congrArg (fun q => ((mlI h m, mlL h m, h.1.2.2), (q, mlB h m, h.2.1.2.2), h.2.2)) e
theorem ml_Z (h : AH) (m : MS) {k : Nat} (v : Int32) : sI (ml h m) 27 k v = ml h (m.sZ (u1 m.Z k v)) := by
  have e : u2 (mlA h m) 27 k v = mlA h (m.sZ (u1 m.Z k v)) := by
    funext a i
    by_cases h1 : a = 27
    · subst h1
      show (if i = k then v else m.Z i) = (u1 m.Z k v) i
      unfold u1
      by_cases h2 : i = k
      · simp only [h2, if_true]
      · simp only [h2, if_false]
    · unfold u2 mlA
      simp only [h1, if_false] <;> rfl
  exact congrArg (fun q => ((mlI h m, mlL h m, h.1.2.2), (q, mlB h m, h.2.1.2.2), h.2.2)) e
theorem ml_F (h : AH) (m : MS) {k : Nat} (v : Int32) : sI (ml h m) 28 k v = ml h (m.sF (u1 m.F k v)) := by
  have e : u2 (mlA h m) 28 k v = mlA h (m.sF (u1 m.F k v)) := by
    funext a i
    by_cases h1 : a = 28
    · subst h1
      show (if i = k then v else m.F i) = (u1 m.F k v) i
      unfold u1
      by_cases h2 : i = k
      · simp only [h2, if_true]
      · simp only [h2, if_false]
    · unfold u2 mlA
      simp only [h1, if_false] <;> rfl
  exact congrArg (fun q => ((mlI h m, mlL h m, h.1.2.2), (q, mlB h m, h.2.1.2.2), h.2.2)) e
theorem ml_rO (h : AH) (m : MS) {k : Nat} (v : Int32) : sI (ml h m) 29 k v = ml h (m.srO (u1 m.rO k v)) := by
  have e : u2 (mlA h m) 29 k v = mlA h (m.srO (u1 m.rO k v)) := by
    funext a i
    by_cases h1 : a = 29
    · subst h1
      show (if i = k then v else m.rO i) = (u1 m.rO k v) i
      unfold u1
      by_cases h2 : i = k
      · simp only [h2, if_true]
      · simp only [h2, if_false]
    · unfold u2 mlA
      simp only [h1, if_false] <;> rfl
  exact congrArg (fun q => ((mlI h m, mlL h m, h.1.2.2), (q, mlB h m, h.2.1.2.2), h.2.2)) e
theorem ml_rP (h : AH) (m : MS) {k : Nat} (v : Int32) : sI (ml h m) 30 k v = ml h (m.srP (u1 m.rP k v)) := by
  have e : u2 (mlA h m) 30 k v = mlA h (m.srP (u1 m.rP k v)) := by
    funext a i
    by_cases h1 : a = 30
    · subst h1
      show (if i = k then v else m.rP i) = (u1 m.rP k v) i
      unfold u1
      by_cases h2 : i = k
      · simp only [h2, if_true]
      · simp only [h2, if_false]
    · unfold u2 mlA
      simp only [h1, if_false] <;> rfl
  exact congrArg (fun q => ((mlI h m, mlL h m, h.1.2.2), (q, mlB h m, h.2.1.2.2), h.2.2)) e
theorem ml_rT (h : AH) (m : MS) {k : Nat} (v : Int32) : sI (ml h m) 31 k v = ml h (m.srT (u1 m.rT k v)) := by
  have e : u2 (mlA h m) 31 k v = mlA h (m.srT (u1 m.rT k v)) := by
    funext a i
    by_cases h1 : a = 31
    · subst h1
      show (if i = k then v else m.rT i) = (u1 m.rT k v) i
      unfold u1
      by_cases h2 : i = k
      · simp only [h2, if_true]
      · simp only [h2, if_false]
    · unfold u2 mlA
      simp only [h1, if_false] <;> rfl
  exact congrArg (fun q => ((mlI h m, mlL h m, h.1.2.2), (q, mlB h m, h.2.1.2.2), h.2.2)) e
theorem ml_rQ (h : AH) (m : MS) {k : Nat} (v : Int32) : sI (ml h m) 32 k v = ml h (m.srQ (u1 m.rQ k v)) := by
  have e : u2 (mlA h m) 32 k v = mlA h (m.srQ (u1 m.rQ k v)) := by
    funext a i
    by_cases h1 : a = 32
    · subst h1
      show (if i = k then v else m.rQ i) = (u1 m.rQ k v) i
      unfold u1
      by_cases h2 : i = k
      · simp only [h2, if_true]
      · simp only [h2, if_false]
    · unfold u2 mlA
      simp only [h1, if_false] <;> rfl
  exact congrArg (fun q => ((mlI h m, mlL h m, h.1.2.2), (q, mlB h m, h.2.1.2.2), h.2.2)) e
theorem ml_Pl (h : AH) (m : MS) {k : Nat} (hk : 1 ≤ k) (v : Nat) : sI (ml h m) 16 (k - 1) (en v) = ml h (m.sP (u1 m.P.1 k v, m.P.2)) := by
  have e : u2 (mlA h m) 16 (k - 1) (en v) = mlA h (m.sP (u1 m.P.1 k v, m.P.2)) := by
    funext a i
    by_cases h1 : a = 16
    · subst h1
      show (if i = (k - 1) then (en v) else en (m.P.1 (i + 1))) = en ((u1 m.P.1 k v) (i + 1))
      unfold u1
      by_cases h2 : i = (k - 1)
      · rw [if_pos h2, if_pos (by omega)]
      · rw [if_neg h2, if_neg (by omega)]
    · unfold u2 mlA
      simp only [h1, if_false] <;> rfl
  exact congrArg (fun q => ((mlI h m, mlL h m, h.1.2.2), (q, mlB h m, h.2.1.2.2), h.2.2)) e
theorem ml_Pr (h : AH) (m : MS) {k : Nat} (hk : 1 ≤ k) (v : Nat) : sI (ml h m) 17 (k - 1) (en v) = ml h (m.sP (m.P.1, u1 m.P.2.1 k v, m.P.2.2)) := by
  have e : u2 (mlA h m) 17 (k - 1) (en v) = mlA h (m.sP (m.P.1, u1 m.P.2.1 k v, m.P.2.2)) := by
    funext a i
    by_cases h1 : a = 17
    · subst h1
      show (if i = (k - 1) then (en v) else en (m.P.2.1 (i + 1))) = en ((u1 m.P.2.1 k v) (i + 1))
      unfold u1
      by_cases h2 : i = (k - 1)
      · rw [if_pos h2, if_pos (by omega)]
      · rw [if_neg h2, if_neg (by omega)]
    · unfold u2 mlA
      simp only [h1, if_false] <;> rfl
  exact congrArg (fun q => ((mlI h m, mlL h m, h.1.2.2), (q, mlB h m, h.2.1.2.2), h.2.2)) e
theorem ml_Pu (h : AH) (m : MS) {k : Nat} (hk : 1 ≤ k) (v : Nat) : sI (ml h m) 18 (k - 1) (en v) = ml h (m.sP (m.P.1, m.P.2.1, u1 m.P.2.2 k v)) := by
  have e : u2 (mlA h m) 18 (k - 1) (en v) = mlA h (m.sP (m.P.1, m.P.2.1, u1 m.P.2.2 k v)) := by
    funext a i
    by_cases h1 : a = 18
    · subst h1
      show (if i = (k - 1) then (en v) else en (m.P.2.2 (i + 1))) = en ((u1 m.P.2.2 k v) (i + 1))
      unfold u1
      by_cases h2 : i = (k - 1)
      · rw [if_pos h2, if_pos (by omega)]
      · rw [if_neg h2, if_neg (by omega)]
    · unfold u2 mlA
      simp only [h1, if_false] <;> rfl
  exact congrArg (fun q => ((mlI h m, mlL h m, h.1.2.2), (q, mlB h m, h.2.1.2.2), h.2.2)) e
theorem ml_pu (h : AH) (m : MS) {k : Nat} (v : Int64) : sL (ml h m) 11 k v = ml h (m.spu (u1 m.pu k v)) := by
  have e : u2 (mlB h m) 11 k v = mlB h (m.spu (u1 m.pu k v)) := by
    funext a i
    by_cases h1 : a = 11
    · subst h1
      show (if i = k then v else m.pu i) = (u1 m.pu k v) i
      unfold u1
      by_cases h2 : i = k
      · simp only [h2, if_true]
      · simp only [h2, if_false]
    · unfold u2 mlB
      simp only [h1, if_false] <;> rfl
  exact congrArg (fun q => ((mlI h m, mlL h m, h.1.2.2), (mlA h m, q, h.2.1.2.2), h.2.2)) e
theorem ml_st (h : AH) (m : MS) {k : Nat} (v : Int64) : sL (ml h m) 12 k v = ml h (m.sst (u1 m.st k v)) := by
  have e : u2 (mlB h m) 12 k v = mlB h (m.sst (u1 m.st k v)) := by
    funext a i
    by_cases h1 : a = 12
    · subst h1
      show (if i = k then v else m.st i) = (u1 m.st k v) i
      unfold u1
      by_cases h2 : i = k
      · simp only [h2, if_true]
      · simp only [h2, if_false]
    · unfold u2 mlB
      simp only [h1, if_false] <;> rfl
  exact congrArg (fun q => ((mlI h m, mlL h m, h.1.2.2), (mlA h m, q, h.2.1.2.2), h.2.2)) e
theorem ml_ky (h : AH) (m : MS) {k : Nat} (hk : 1 ≤ k) (v : Int64) : sL (ml h m) 15 (k - 1) v = ml h (m.sky (u1 m.ky k v)) := by
  have e : u2 (mlB h m) 15 (k - 1) v = mlB h (m.sky (u1 m.ky k v)) := by
    funext a i
    by_cases h1 : a = 15
    · subst h1
      show (if i = (k - 1) then v else m.ky (i + 1)) = (u1 m.ky k v) (i + 1)
      unfold u1
      by_cases h2 : i = (k - 1)
      · rw [if_pos h2, if_pos (by omega)]
      · rw [if_neg h2, if_neg (by omega)]
    · unfold u2 mlB
      simp only [h1, if_false] <;> rfl
  exact congrArg (fun q => ((mlI h m, mlL h m, h.1.2.2), (mlA h m, q, h.2.1.2.2), h.2.2)) e
theorem ml_it (h : AH) (m : MS) {k : Nat} (hk : 1 ≤ k) (v : Int64) : sL (ml h m) 22 (k - 1) v = ml h (m.sit (u1 m.it k v)) := by
  have e : u2 (mlB h m) 22 (k - 1) v = mlB h (m.sit (u1 m.it k v)) := by
    funext a i
    by_cases h1 : a = 22
    · subst h1
      show (if i = (k - 1) then v else m.it (i + 1)) = (u1 m.it k v) (i + 1)
      unfold u1
      by_cases h2 : i = (k - 1)
      · rw [if_pos h2, if_pos (by omega)]
      · rw [if_neg h2, if_neg (by omega)]
    · unfold u2 mlB
      simp only [h1, if_false] <;> rfl
  exact congrArg (fun q => ((mlI h m, mlL h m, h.1.2.2), (mlA h m, q, h.2.1.2.2), h.2.2)) e
theorem ml_rt0 (h : AH) (m : MS) {k : Nat} : sI (ml h m) 10 k (-1) = ml h (m.srt (u1 m.rt k 0)) := by
  rw [← en_0]
  exact ml_rt h m 0
theorem ml_fV0 (h : AH) (m : MS) {k : Nat} (hk : 1 ≤ k) : sI (ml h m) 20 (k - 1) (-1) = ml h (m.sfV (u1 m.fV k 0)) := by
  rw [← en_0]
  exact ml_fV h m hk 0
theorem ml_lV0 (h : AH) (m : MS) {k : Nat} (hk : 1 ≤ k) : sI (ml h m) 21 (k - 1) (-1) = ml h (m.slV (u1 m.lV k 0)) := by
  rw [← en_0]
  exact ml_lV h m hk 0
theorem ml_nx0 (h : AH) (m : MS) {k : Nat} (hk : 1 ≤ k) : sI (ml h m) 23 (k - 1) (-1) = ml h (m.snx (u1 m.nx k 0)) := by
  rw [← en_0]
  exact ml_nx h m hk 0
theorem ml_Pl0 (h : AH) (m : MS) {k : Nat} (hk : 1 ≤ k) : sI (ml h m) 16 (k - 1) (-1) = ml h (m.sP (u1 m.P.1 k 0, m.P.2)) := by
  rw [← en_0]
  exact ml_Pl h m hk 0
theorem ml_Pr0 (h : AH) (m : MS) {k : Nat} (hk : 1 ≤ k) : sI (ml h m) 17 (k - 1) (-1) = ml h (m.sP (m.P.1, u1 m.P.2.1 k 0, m.P.2.2)) := by
  rw [← en_0]
  exact ml_Pr h m hk 0
theorem ml_Pu0 (h : AH) (m : MS) {k : Nat} (hk : 1 ≤ k) : sI (ml h m) 18 (k - 1) (-1) = ml h (m.sP (m.P.1, m.P.2.1, u1 m.P.2.2 k 0)) := by
  rw [← en_0]
  exact ml_Pu h m hk 0
theorem ml_bs0 (h : AH) (m : MS) : wI (ml h m) 73 8 (-1) = ml h (m.sbs 0) := by
  rw [← en_0]
  exact ml_bs h m 0
abbrev SCT : Type := (Nat → Int32) × (Nat → Int32) × (Nat → Int32) × (Nat → Int32) × Int32
def MS.sW (m : MS) (q : SCT) : MS := (m.1, m.2.1, m.2.2.1, m.2.2.2.1, m.2.2.2.2.1, q)
theorem SWq (m : MS) (q : SCT) : (m.sW q).kd = m.kd ∧ (m.sW q).rt = m.rt ∧ (m.sW q).pu = m.pu ∧ (m.sW q).st = m.st ∧ (m.sW q).pl = m.pl ∧ (m.sW q).nu = m.nu ∧ (m.sW q).ky = m.ky ∧ (m.sW q).P = m.P ∧ (m.sW q).cs = m.cs ∧ (m.sW q).fV = m.fV ∧ (m.sW q).lV = m.lV ∧ (m.sW q).it = m.it ∧ (m.sW q).nx = m.nx ∧ (m.sW q).K = m.K ∧ (m.sW q).E = m.E ∧ (m.sW q).nm = m.nm ∧ (m.sW q).fn = m.fn ∧ (m.sW q).im = m.im ∧ (m.sW q).fi = m.fi ∧ (m.sW q).se = m.se ∧ (m.sW q).sp = m.sp ∧ (m.sW q).fk = m.fk ∧ (m.sW q).fv = m.fv ∧ (m.sW q).N = m.N ∧ (m.sW q).bs = m.bs ∧ (m.sW q).rO = m.rO ∧ (m.sW q).rP = m.rP ∧ (m.sW q).rT = m.rT ∧ (m.sW q).rQ = m.rQ ∧ (m.sW q).O = q.1 ∧ (m.sW q).Pi = q.2.1 ∧ (m.sW q).Z = q.2.2.1 ∧ (m.sW q).F = q.2.2.2.1 ∧ (m.sW q).la = q.2.2.2.2 := ⟨rfl, rfl, rfl, rfl, rfl, rfl, rfl, rfl, rfl, rfl, rfl, rfl, rfl, rfl, rfl, rfl, rfl, rfl, rfl, rfl, rfl, rfl, rfl, rfl, rfl, rfl, rfl, rfl, rfl, rfl, rfl, rfl, rfl, rfl⟩
theorem sc_ml (h : AH) (m : MS) (O Pi Z F : Nat → Int32) (n : Int32) : sc (ml h m) O Pi Z F n = ml h (m.sW (O, Pi, Z, F, n)) := by
  have e1 : u2 (mlI h m) 64 8 n = u2 (mlI h (m.sW (O, Pi, Z, F, n))) 64 8 n := by
    funext f a
    unfold u2 mlI
    by_cases h1 : f = 64
    · subst h1
      by_cases h2 : a = 8
      · subst h2; rfl
      · simp only [h2, if_false, if_true] <;> rfl
    · simp only [h1, if_false] <;> rfl
  have e2 : (fun a i => if a = 24 then O i else if a = 26 then Pi i else if a = 27 then Z i else if a = 28 then F i else (mlA h m) a i) = (fun a i => if a = 24 then O i else if a = 26 then Pi i else if a = 27 then Z i else if a = 28 then F i else (mlA h (m.sW (O, Pi, Z, F, n))) a i) := by
    funext a i
    by_cases h1 : a = 24
    · rw [if_pos h1, if_pos h1]
    · rw [if_neg h1, if_neg h1]
      by_cases h2 : a = 26
      · rw [if_pos h2, if_pos h2]
      · rw [if_neg h2, if_neg h2]
        by_cases h3 : a = 27
        · rw [if_pos h3, if_pos h3]
        · rw [if_neg h3, if_neg h3]
          by_cases h4 : a = 28
          · rw [if_pos h4, if_pos h4]
          · rw [if_neg h4, if_neg h4]
            unfold mlA
            simp only [h1, h2, h3, h4, if_false] <;> rfl
  have key := congr (congrArg (fun (a : Nat → Nat → Int32) (b : Nat → Nat → Int32) => (((a, mlL h m, h.1.2.2), (b, mlB h m, h.2.1.2.2), h.2.2) : AH)) e1) e2
  have k2 := sc_id (ml h (m.sW (O, Pi, Z, F, n)))
  exact key.trans k2
theorem pm_ml (h : AH) (m : MS) (Q : PT) : pm (ml h m) Q = ml h (m.sP Q) := by
  have e2 : (fun a i => if a = 16 then en (Q.1 (i + 1)) else if a = 17 then en (Q.2.1 (i + 1)) else if a = 18 then en (Q.2.2 (i + 1)) else (mlA h m) a i) = mlA h (m.sP Q) := by
    funext a i
    unfold mlA
    by_cases h1 : a = 16
    · subst h1; rfl
    · by_cases h2 : a = 17
      · subst h2; rfl
      · by_cases h3 : a = 18
        · subst h3; rfl
        · simp only [h1, h2, h3, if_false] <;> rfl
  exact congrArg (fun b => ((mlI h m, mlL h m, h.1.2.2), (b, mlB h m, h.2.1.2.2), h.2.2)) e2
theorem ml_pm (h : AH) (m : MS) : ml h m = pm (ml h m) m.P := by
  rw [pm_ml]
  rfl
theorem MB_ml {h : AH} (hb : MB h) (m : MS) : MB (ml h m) := hb
