-- THE CLASS'S STATE, by numbers, and its addresses
def CS : Type := ((Nat → Int64) × (Nat → Nat) × (PT) × (Nat → Nat) × (Nat → Nat) × (Nat → Nat) × (Nat → Nat)) × ((Nat → Int32) × (Nat → Nat)) × ((Nat → Nat) × (Nat → Nat) × (Nat → Nat) × (Nat → Int32) × (Nat → Int32) × (Nat → Nat) × (Nat → Nat) × (Nat → Nat) × (Nat → Nat) × (Nat → Nat) × (Nat → Nat) × (Nat → Nat)) × ((Nat) × (Nat) × (Nat) × (Int64) × (Int32) × (Nat)) × ((Nat → Int32) × (Nat → Int32) × (Nat → Int32) × (Nat → Int32)) × ((Nat → Nat))
def CS.ck (c : CS) : Nat → Int64 := c.1.1
def CS.cc (c : CS) : Nat → Nat := c.1.2.1
def CS.P (c : CS) : PT := c.1.2.2.1
def CS.cz (c : CS) : Nat → Nat := c.1.2.2.2.1
def CS.nv (c : CS) : Nat → Nat := c.1.2.2.2.2.1
def CS.f1 (c : CS) : Nat → Nat := c.1.2.2.2.2.2.1
def CS.l1 (c : CS) : Nat → Nat := c.1.2.2.2.2.2.2
def CS.vn (c : CS) : Nat → Int32 := c.2.1.1
def CS.vx (c : CS) : Nat → Nat := c.2.1.2
def CS.kd (c : CS) : Nat → Nat := c.2.2.1.1
def CS.ro (c : CS) : Nat → Nat := c.2.2.1.2.1
def CS.he (c : CS) : Nat → Nat := c.2.2.1.2.2.1
def CS.pu (c : CS) : Nat → Int32 := c.2.2.1.2.2.2.1
def CS.st (c : CS) : Nat → Int32 := c.2.2.1.2.2.2.2.1
def CS.vs (c : CS) : Nat → Nat := c.2.2.1.2.2.2.2.2.1
def CS.la (c : CS) : Nat → Nat := c.2.2.1.2.2.2.2.2.2.1
def CS.tl (c : CS) : Nat → Nat := c.2.2.1.2.2.2.2.2.2.2.1
def CS.dp (c : CS) : Nat → Nat := c.2.2.1.2.2.2.2.2.2.2.2.1
def CS.lg (c : CS) : Nat → Nat := c.2.2.1.2.2.2.2.2.2.2.2.2.1
def CS.hy (c : CS) : Nat → Nat := c.2.2.1.2.2.2.2.2.2.2.2.2.2.1
def CS.pa (c : CS) : Nat → Nat := c.2.2.1.2.2.2.2.2.2.2.2.2.2.2
def CS.K (c : CS) : Nat := c.2.2.2.1.1
def CS.E (c : CS) : Nat := c.2.2.2.1.2.1
def CS.cn (c : CS) : Nat := c.2.2.2.1.2.2.1
def CS.fk (c : CS) : Int64 := c.2.2.2.1.2.2.2.1
def CS.fv (c : CS) : Int32 := c.2.2.2.1.2.2.2.2.1
def CS.N (c : CS) : Nat := c.2.2.2.1.2.2.2.2.2
def CS.rO (c : CS) : Nat → Int32 := c.2.2.2.2.1.1
def CS.rP (c : CS) : Nat → Int32 := c.2.2.2.2.1.2.1
def CS.rT (c : CS) : Nat → Int32 := c.2.2.2.2.1.2.2.1
def CS.rQ (c : CS) : Nat → Int32 := c.2.2.2.2.1.2.2.2
def CS.ar (c : CS) : Nat → Nat := c.2.2.2.2.2
def CS.sck (c : CS) (v : Nat → Int64) : CS := ((v, c.1.2), c.2)
def CS.scc (c : CS) (v : Nat → Nat) : CS := ((c.1.1, v, c.1.2.2), c.2)
def CS.sP (c : CS) (v : PT) : CS := ((c.1.1, c.1.2.1, v, c.1.2.2.2), c.2)
def CS.scz (c : CS) (v : Nat → Nat) : CS := ((c.1.1, c.1.2.1, c.1.2.2.1, v, c.1.2.2.2.2), c.2)
def CS.snv (c : CS) (v : Nat → Nat) : CS := ((c.1.1, c.1.2.1, c.1.2.2.1, c.1.2.2.2.1, v, c.1.2.2.2.2.2), c.2)
def CS.sf1 (c : CS) (v : Nat → Nat) : CS := ((c.1.1, c.1.2.1, c.1.2.2.1, c.1.2.2.2.1, c.1.2.2.2.2.1, v, c.1.2.2.2.2.2.2), c.2)
def CS.sl1 (c : CS) (v : Nat → Nat) : CS := ((c.1.1, c.1.2.1, c.1.2.2.1, c.1.2.2.2.1, c.1.2.2.2.2.1, c.1.2.2.2.2.2.1, v), c.2)
def CS.svn (c : CS) (v : Nat → Int32) : CS := (c.1, (v, c.2.1.2), c.2.2)
def CS.svx (c : CS) (v : Nat → Nat) : CS := (c.1, (c.2.1.1, v), c.2.2)
def CS.skd (c : CS) (v : Nat → Nat) : CS := (c.1, c.2.1, (v, c.2.2.1.2), c.2.2.2)
def CS.sro (c : CS) (v : Nat → Nat) : CS := (c.1, c.2.1, (c.2.2.1.1, v, c.2.2.1.2.2), c.2.2.2)
def CS.she (c : CS) (v : Nat → Nat) : CS := (c.1, c.2.1, (c.2.2.1.1, c.2.2.1.2.1, v, c.2.2.1.2.2.2), c.2.2.2)
def CS.spu (c : CS) (v : Nat → Int32) : CS := (c.1, c.2.1, (c.2.2.1.1, c.2.2.1.2.1, c.2.2.1.2.2.1, v, c.2.2.1.2.2.2.2), c.2.2.2)
def CS.sst (c : CS) (v : Nat → Int32) : CS := (c.1, c.2.1, (c.2.2.1.1, c.2.2.1.2.1, c.2.2.1.2.2.1, c.2.2.1.2.2.2.1, v, c.2.2.1.2.2.2.2.2), c.2.2.2)
def CS.svs (c : CS) (v : Nat → Nat) : CS := (c.1, c.2.1, (c.2.2.1.1, c.2.2.1.2.1, c.2.2.1.2.2.1, c.2.2.1.2.2.2.1, c.2.2.1.2.2.2.2.1, v, c.2.2.1.2.2.2.2.2.2), c.2.2.2)
def CS.sla (c : CS) (v : Nat → Nat) : CS := (c.1, c.2.1, (c.2.2.1.1, c.2.2.1.2.1, c.2.2.1.2.2.1, c.2.2.1.2.2.2.1, c.2.2.1.2.2.2.2.1, c.2.2.1.2.2.2.2.2.1, v, c.2.2.1.2.2.2.2.2.2.2), c.2.2.2)
def CS.stl (c : CS) (v : Nat → Nat) : CS := (c.1, c.2.1, (c.2.2.1.1, c.2.2.1.2.1, c.2.2.1.2.2.1, c.2.2.1.2.2.2.1, c.2.2.1.2.2.2.2.1, c.2.2.1.2.2.2.2.2.1, c.2.2.1.2.2.2.2.2.2.1, v, c.2.2.1.2.2.2.2.2.2.2.2), c.2.2.2)
def CS.sdp (c : CS) (v : Nat → Nat) : CS := (c.1, c.2.1, (c.2.2.1.1, c.2.2.1.2.1, c.2.2.1.2.2.1, c.2.2.1.2.2.2.1, c.2.2.1.2.2.2.2.1, c.2.2.1.2.2.2.2.2.1, c.2.2.1.2.2.2.2.2.2.1, c.2.2.1.2.2.2.2.2.2.2.1, v, c.2.2.1.2.2.2.2.2.2.2.2.2), c.2.2.2)
def CS.slg (c : CS) (v : Nat → Nat) : CS := (c.1, c.2.1, (c.2.2.1.1, c.2.2.1.2.1, c.2.2.1.2.2.1, c.2.2.1.2.2.2.1, c.2.2.1.2.2.2.2.1, c.2.2.1.2.2.2.2.2.1, c.2.2.1.2.2.2.2.2.2.1, c.2.2.1.2.2.2.2.2.2.2.1, c.2.2.1.2.2.2.2.2.2.2.2.1, v, c.2.2.1.2.2.2.2.2.2.2.2.2.2), c.2.2.2)
def CS.shy (c : CS) (v : Nat → Nat) : CS := (c.1, c.2.1, (c.2.2.1.1, c.2.2.1.2.1, c.2.2.1.2.2.1, c.2.2.1.2.2.2.1, c.2.2.1.2.2.2.2.1, c.2.2.1.2.2.2.2.2.1, c.2.2.1.2.2.2.2.2.2.1, c.2.2.1.2.2.2.2.2.2.2.1, c.2.2.1.2.2.2.2.2.2.2.2.1, c.2.2.1.2.2.2.2.2.2.2.2.2.1, v, c.2.2.1.2.2.2.2.2.2.2.2.2.2.2), c.2.2.2)
def CS.spa (c : CS) (v : Nat → Nat) : CS := (c.1, c.2.1, (c.2.2.1.1, c.2.2.1.2.1, c.2.2.1.2.2.1, c.2.2.1.2.2.2.1, c.2.2.1.2.2.2.2.1, c.2.2.1.2.2.2.2.2.1, c.2.2.1.2.2.2.2.2.2.1, c.2.2.1.2.2.2.2.2.2.2.1, c.2.2.1.2.2.2.2.2.2.2.2.1, c.2.2.1.2.2.2.2.2.2.2.2.2.1, c.2.2.1.2.2.2.2.2.2.2.2.2.2.1, v), c.2.2.2)
def CS.sK (c : CS) (v : Nat) : CS := (c.1, c.2.1, c.2.2.1, (v, c.2.2.2.1.2), c.2.2.2.2)
def CS.sE (c : CS) (v : Nat) : CS := (c.1, c.2.1, c.2.2.1, (c.2.2.2.1.1, v, c.2.2.2.1.2.2), c.2.2.2.2)
def CS.scn (c : CS) (v : Nat) : CS := (c.1, c.2.1, c.2.2.1, (c.2.2.2.1.1, c.2.2.2.1.2.1, v, c.2.2.2.1.2.2.2), c.2.2.2.2)
def CS.sfk (c : CS) (v : Int64) : CS := (c.1, c.2.1, c.2.2.1, (c.2.2.2.1.1, c.2.2.2.1.2.1, c.2.2.2.1.2.2.1, v, c.2.2.2.1.2.2.2.2), c.2.2.2.2)
def CS.sfv (c : CS) (v : Int32) : CS := (c.1, c.2.1, c.2.2.1, (c.2.2.2.1.1, c.2.2.2.1.2.1, c.2.2.2.1.2.2.1, c.2.2.2.1.2.2.2.1, v, c.2.2.2.1.2.2.2.2.2), c.2.2.2.2)
def CS.sN (c : CS) (v : Nat) : CS := (c.1, c.2.1, c.2.2.1, (c.2.2.2.1.1, c.2.2.2.1.2.1, c.2.2.2.1.2.2.1, c.2.2.2.1.2.2.2.1, c.2.2.2.1.2.2.2.2.1, v), c.2.2.2.2)
def CS.srO (c : CS) (v : Nat → Int32) : CS := (c.1, c.2.1, c.2.2.1, c.2.2.2.1, (v, c.2.2.2.2.1.2), c.2.2.2.2.2)
def CS.srP (c : CS) (v : Nat → Int32) : CS := (c.1, c.2.1, c.2.2.1, c.2.2.2.1, (c.2.2.2.2.1.1, v, c.2.2.2.2.1.2.2), c.2.2.2.2.2)
def CS.srT (c : CS) (v : Nat → Int32) : CS := (c.1, c.2.1, c.2.2.1, c.2.2.2.1, (c.2.2.2.2.1.1, c.2.2.2.2.1.2.1, v, c.2.2.2.2.1.2.2.2), c.2.2.2.2.2)
def CS.srQ (c : CS) (v : Nat → Int32) : CS := (c.1, c.2.1, c.2.2.1, c.2.2.2.1, (c.2.2.2.2.1.1, c.2.2.2.2.1.2.1, c.2.2.2.2.1.2.2.1, v), c.2.2.2.2.2)
def CS.sar (c : CS) (v : Nat → Nat) : CS := (c.1, c.2.1, c.2.2.1, c.2.2.2.1, c.2.2.2.2.1, v)
theorem Uck (c : CS) (v : Nat → Int64) : (c.sck v).ck = v ∧ (c.sck v).cc = c.cc ∧ (c.sck v).P = c.P ∧ (c.sck v).cz = c.cz ∧ (c.sck v).nv = c.nv ∧ (c.sck v).f1 = c.f1 ∧ (c.sck v).l1 = c.l1 ∧ (c.sck v).vn = c.vn ∧ (c.sck v).vx = c.vx ∧ (c.sck v).kd = c.kd ∧ (c.sck v).ro = c.ro ∧ (c.sck v).he = c.he ∧ (c.sck v).pu = c.pu ∧ (c.sck v).st = c.st ∧ (c.sck v).vs = c.vs ∧ (c.sck v).la = c.la ∧ (c.sck v).tl = c.tl ∧ (c.sck v).dp = c.dp ∧ (c.sck v).lg = c.lg ∧ (c.sck v).hy = c.hy ∧ (c.sck v).pa = c.pa ∧ (c.sck v).K = c.K ∧ (c.sck v).E = c.E ∧ (c.sck v).cn = c.cn ∧ (c.sck v).fk = c.fk ∧ (c.sck v).fv = c.fv ∧ (c.sck v).N = c.N ∧ (c.sck v).rO = c.rO ∧ (c.sck v).rP = c.rP ∧ (c.sck v).rT = c.rT ∧ (c.sck v).rQ = c.rQ ∧ (c.sck v).ar = c.ar := ⟨rfl, rfl, rfl, rfl, rfl, rfl, rfl, rfl, rfl, rfl, rfl, rfl, rfl, rfl, rfl, rfl, rfl, rfl, rfl, rfl, rfl, rfl, rfl, rfl, rfl, rfl, rfl, rfl, rfl, rfl, rfl, rfl⟩
theorem Ucc (c : CS) (v : Nat → Nat) : (c.scc v).ck = c.ck ∧ (c.scc v).cc = v ∧ (c.scc v).P = c.P ∧ (c.scc v).cz = c.cz ∧ (c.scc v).nv = c.nv ∧ (c.scc v).f1 = c.f1 ∧ (c.scc v).l1 = c.l1 ∧ (c.scc v).vn = c.vn ∧ (c.scc v).vx = c.vx ∧ (c.scc v).kd = c.kd ∧ (c.scc v).ro = c.ro ∧ (c.scc v).he = c.he ∧ (c.scc v).pu = c.pu ∧ (c.scc v).st = c.st ∧ (c.scc v).vs = c.vs ∧ (c.scc v).la = c.la ∧ (c.scc v).tl = c.tl ∧ (c.scc v).dp = c.dp ∧ (c.scc v).lg = c.lg ∧ (c.scc v).hy = c.hy ∧ (c.scc v).pa = c.pa ∧ (c.scc v).K = c.K ∧ (c.scc v).E = c.E ∧ (c.scc v).cn = c.cn ∧ (c.scc v).fk = c.fk ∧ (c.scc v).fv = c.fv ∧ (c.scc v).N = c.N ∧ (c.scc v).rO = c.rO ∧ (c.scc v).rP = c.rP ∧ (c.scc v).rT = c.rT ∧ (c.scc v).rQ = c.rQ ∧ (c.scc v).ar = c.ar := ⟨rfl, rfl, rfl, rfl, rfl, rfl, rfl, rfl, rfl, rfl, rfl, rfl, rfl, rfl, rfl, rfl, rfl, rfl, rfl, rfl, rfl, rfl, rfl, rfl, rfl, rfl, rfl, rfl, rfl, rfl, rfl, rfl⟩
theorem UP (c : CS) (v : PT) : (c.sP v).ck = c.ck ∧ (c.sP v).cc = c.cc ∧ (c.sP v).P = v ∧ (c.sP v).cz = c.cz ∧ (c.sP v).nv = c.nv ∧ (c.sP v).f1 = c.f1 ∧ (c.sP v).l1 = c.l1 ∧ (c.sP v).vn = c.vn ∧ (c.sP v).vx = c.vx ∧ (c.sP v).kd = c.kd ∧ (c.sP v).ro = c.ro ∧ (c.sP v).he = c.he ∧ (c.sP v).pu = c.pu ∧ (c.sP v).st = c.st ∧ (c.sP v).vs = c.vs ∧ (c.sP v).la = c.la ∧ (c.sP v).tl = c.tl ∧ (c.sP v).dp = c.dp ∧ (c.sP v).lg = c.lg ∧ (c.sP v).hy = c.hy ∧ (c.sP v).pa = c.pa ∧ (c.sP v).K = c.K ∧ (c.sP v).E = c.E ∧ (c.sP v).cn = c.cn ∧ (c.sP v).fk = c.fk ∧ (c.sP v).fv = c.fv ∧ (c.sP v).N = c.N ∧ (c.sP v).rO = c.rO ∧ (c.sP v).rP = c.rP ∧ (c.sP v).rT = c.rT ∧ (c.sP v).rQ = c.rQ ∧ (c.sP v).ar = c.ar := ⟨rfl, rfl, rfl, rfl, rfl, rfl, rfl, rfl, rfl, rfl, rfl, rfl, rfl, rfl, rfl, rfl, rfl, rfl, rfl, rfl, rfl, rfl, rfl, rfl, rfl, rfl, rfl, rfl, rfl, rfl, rfl, rfl⟩
theorem Ucz (c : CS) (v : Nat → Nat) : (c.scz v).ck = c.ck ∧ (c.scz v).cc = c.cc ∧ (c.scz v).P = c.P ∧ (c.scz v).cz = v ∧ (c.scz v).nv = c.nv ∧ (c.scz v).f1 = c.f1 ∧ (c.scz v).l1 = c.l1 ∧ (c.scz v).vn = c.vn ∧ (c.scz v).vx = c.vx ∧ (c.scz v).kd = c.kd ∧ (c.scz v).ro = c.ro ∧ (c.scz v).he = c.he ∧ (c.scz v).pu = c.pu ∧ (c.scz v).st = c.st ∧ (c.scz v).vs = c.vs ∧ (c.scz v).la = c.la ∧ (c.scz v).tl = c.tl ∧ (c.scz v).dp = c.dp ∧ (c.scz v).lg = c.lg ∧ (c.scz v).hy = c.hy ∧ (c.scz v).pa = c.pa ∧ (c.scz v).K = c.K ∧ (c.scz v).E = c.E ∧ (c.scz v).cn = c.cn ∧ (c.scz v).fk = c.fk ∧ (c.scz v).fv = c.fv ∧ (c.scz v).N = c.N ∧ (c.scz v).rO = c.rO ∧ (c.scz v).rP = c.rP ∧ (c.scz v).rT = c.rT ∧ (c.scz v).rQ = c.rQ ∧ (c.scz v).ar = c.ar := ⟨rfl, rfl, rfl, rfl, rfl, rfl, rfl, rfl, rfl, rfl, rfl, rfl, rfl, rfl, rfl, rfl, rfl, rfl, rfl, rfl, rfl, rfl, rfl, rfl, rfl, rfl, rfl, rfl, rfl, rfl, rfl, rfl⟩
theorem Unv (c : CS) (v : Nat → Nat) : (c.snv v).ck = c.ck ∧ (c.snv v).cc = c.cc ∧ (c.snv v).P = c.P ∧ (c.snv v).cz = c.cz ∧ (c.snv v).nv = v ∧ (c.snv v).f1 = c.f1 ∧ (c.snv v).l1 = c.l1 ∧ (c.snv v).vn = c.vn ∧ (c.snv v).vx = c.vx ∧ (c.snv v).kd = c.kd ∧ (c.snv v).ro = c.ro ∧ (c.snv v).he = c.he ∧ (c.snv v).pu = c.pu ∧ (c.snv v).st = c.st ∧ (c.snv v).vs = c.vs ∧ (c.snv v).la = c.la ∧ (c.snv v).tl = c.tl ∧ (c.snv v).dp = c.dp ∧ (c.snv v).lg = c.lg ∧ (c.snv v).hy = c.hy ∧ (c.snv v).pa = c.pa ∧ (c.snv v).K = c.K ∧ (c.snv v).E = c.E ∧ (c.snv v).cn = c.cn ∧ (c.snv v).fk = c.fk ∧ (c.snv v).fv = c.fv ∧ (c.snv v).N = c.N ∧ (c.snv v).rO = c.rO ∧ (c.snv v).rP = c.rP ∧ (c.snv v).rT = c.rT ∧ (c.snv v).rQ = c.rQ ∧ (c.snv v).ar = c.ar := ⟨rfl, rfl, rfl, rfl, rfl, rfl, rfl, rfl, rfl, rfl, rfl, rfl, rfl, rfl, rfl, rfl, rfl, rfl, rfl, rfl, rfl, rfl, rfl, rfl, rfl, rfl, rfl, rfl, rfl, rfl, rfl, rfl⟩
theorem Uf1 (c : CS) (v : Nat → Nat) : (c.sf1 v).ck = c.ck ∧ (c.sf1 v).cc = c.cc ∧ (c.sf1 v).P = c.P ∧ (c.sf1 v).cz = c.cz ∧ (c.sf1 v).nv = c.nv ∧ (c.sf1 v).f1 = v ∧ (c.sf1 v).l1 = c.l1 ∧ (c.sf1 v).vn = c.vn ∧ (c.sf1 v).vx = c.vx ∧ (c.sf1 v).kd = c.kd ∧ (c.sf1 v).ro = c.ro ∧ (c.sf1 v).he = c.he ∧ (c.sf1 v).pu = c.pu ∧ (c.sf1 v).st = c.st ∧ (c.sf1 v).vs = c.vs ∧ (c.sf1 v).la = c.la ∧ (c.sf1 v).tl = c.tl ∧ (c.sf1 v).dp = c.dp ∧ (c.sf1 v).lg = c.lg ∧ (c.sf1 v).hy = c.hy ∧ (c.sf1 v).pa = c.pa ∧ (c.sf1 v).K = c.K ∧ (c.sf1 v).E = c.E ∧ (c.sf1 v).cn = c.cn ∧ (c.sf1 v).fk = c.fk ∧ (c.sf1 v).fv = c.fv ∧ (c.sf1 v).N = c.N ∧ (c.sf1 v).rO = c.rO ∧ (c.sf1 v).rP = c.rP ∧ (c.sf1 v).rT = c.rT ∧ (c.sf1 v).rQ = c.rQ ∧ (c.sf1 v).ar = c.ar := ⟨rfl, rfl, rfl, rfl, rfl, rfl, rfl, rfl, rfl, rfl, rfl, rfl, rfl, rfl, rfl, rfl, rfl, rfl, rfl, rfl, rfl, rfl, rfl, rfl, rfl, rfl, rfl, rfl, rfl, rfl, rfl, rfl⟩
theorem Ul1 (c : CS) (v : Nat → Nat) : (c.sl1 v).ck = c.ck ∧ (c.sl1 v).cc = c.cc ∧ (c.sl1 v).P = c.P ∧ (c.sl1 v).cz = c.cz ∧ (c.sl1 v).nv = c.nv ∧ (c.sl1 v).f1 = c.f1 ∧ (c.sl1 v).l1 = v ∧ (c.sl1 v).vn = c.vn ∧ (c.sl1 v).vx = c.vx ∧ (c.sl1 v).kd = c.kd ∧ (c.sl1 v).ro = c.ro ∧ (c.sl1 v).he = c.he ∧ (c.sl1 v).pu = c.pu ∧ (c.sl1 v).st = c.st ∧ (c.sl1 v).vs = c.vs ∧ (c.sl1 v).la = c.la ∧ (c.sl1 v).tl = c.tl ∧ (c.sl1 v).dp = c.dp ∧ (c.sl1 v).lg = c.lg ∧ (c.sl1 v).hy = c.hy ∧ (c.sl1 v).pa = c.pa ∧ (c.sl1 v).K = c.K ∧ (c.sl1 v).E = c.E ∧ (c.sl1 v).cn = c.cn ∧ (c.sl1 v).fk = c.fk ∧ (c.sl1 v).fv = c.fv ∧ (c.sl1 v).N = c.N ∧ (c.sl1 v).rO = c.rO ∧ (c.sl1 v).rP = c.rP ∧ (c.sl1 v).rT = c.rT ∧ (c.sl1 v).rQ = c.rQ ∧ (c.sl1 v).ar = c.ar := ⟨rfl, rfl, rfl, rfl, rfl, rfl, rfl, rfl, rfl, rfl, rfl, rfl, rfl, rfl, rfl, rfl, rfl, rfl, rfl, rfl, rfl, rfl, rfl, rfl, rfl, rfl, rfl, rfl, rfl, rfl, rfl, rfl⟩
theorem Uvn (c : CS) (v : Nat → Int32) : (c.svn v).ck = c.ck ∧ (c.svn v).cc = c.cc ∧ (c.svn v).P = c.P ∧ (c.svn v).cz = c.cz ∧ (c.svn v).nv = c.nv ∧ (c.svn v).f1 = c.f1 ∧ (c.svn v).l1 = c.l1 ∧ (c.svn v).vn = v ∧ (c.svn v).vx = c.vx ∧ (c.svn v).kd = c.kd ∧ (c.svn v).ro = c.ro ∧ (c.svn v).he = c.he ∧ (c.svn v).pu = c.pu ∧ (c.svn v).st = c.st ∧ (c.svn v).vs = c.vs ∧ (c.svn v).la = c.la ∧ (c.svn v).tl = c.tl ∧ (c.svn v).dp = c.dp ∧ (c.svn v).lg = c.lg ∧ (c.svn v).hy = c.hy ∧ (c.svn v).pa = c.pa ∧ (c.svn v).K = c.K ∧ (c.svn v).E = c.E ∧ (c.svn v).cn = c.cn ∧ (c.svn v).fk = c.fk ∧ (c.svn v).fv = c.fv ∧ (c.svn v).N = c.N ∧ (c.svn v).rO = c.rO ∧ (c.svn v).rP = c.rP ∧ (c.svn v).rT = c.rT ∧ (c.svn v).rQ = c.rQ ∧ (c.svn v).ar = c.ar := ⟨rfl, rfl, rfl, rfl, rfl, rfl, rfl, rfl, rfl, rfl, rfl, rfl, rfl, rfl, rfl, rfl, rfl, rfl, rfl, rfl, rfl, rfl, rfl, rfl, rfl, rfl, rfl, rfl, rfl, rfl, rfl, rfl⟩
theorem Uvx (c : CS) (v : Nat → Nat) : (c.svx v).ck = c.ck ∧ (c.svx v).cc = c.cc ∧ (c.svx v).P = c.P ∧ (c.svx v).cz = c.cz ∧ (c.svx v).nv = c.nv ∧ (c.svx v).f1 = c.f1 ∧ (c.svx v).l1 = c.l1 ∧ (c.svx v).vn = c.vn ∧ (c.svx v).vx = v ∧ (c.svx v).kd = c.kd ∧ (c.svx v).ro = c.ro ∧ (c.svx v).he = c.he ∧ (c.svx v).pu = c.pu ∧ (c.svx v).st = c.st ∧ (c.svx v).vs = c.vs ∧ (c.svx v).la = c.la ∧ (c.svx v).tl = c.tl ∧ (c.svx v).dp = c.dp ∧ (c.svx v).lg = c.lg ∧ (c.svx v).hy = c.hy ∧ (c.svx v).pa = c.pa ∧ (c.svx v).K = c.K ∧ (c.svx v).E = c.E ∧ (c.svx v).cn = c.cn ∧ (c.svx v).fk = c.fk ∧ (c.svx v).fv = c.fv ∧ (c.svx v).N = c.N ∧ (c.svx v).rO = c.rO ∧ (c.svx v).rP = c.rP ∧ (c.svx v).rT = c.rT ∧ (c.svx v).rQ = c.rQ ∧ (c.svx v).ar = c.ar := ⟨rfl, rfl, rfl, rfl, rfl, rfl, rfl, rfl, rfl, rfl, rfl, rfl, rfl, rfl, rfl, rfl, rfl, rfl, rfl, rfl, rfl, rfl, rfl, rfl, rfl, rfl, rfl, rfl, rfl, rfl, rfl, rfl⟩
theorem Ukd (c : CS) (v : Nat → Nat) : (c.skd v).ck = c.ck ∧ (c.skd v).cc = c.cc ∧ (c.skd v).P = c.P ∧ (c.skd v).cz = c.cz ∧ (c.skd v).nv = c.nv ∧ (c.skd v).f1 = c.f1 ∧ (c.skd v).l1 = c.l1 ∧ (c.skd v).vn = c.vn ∧ (c.skd v).vx = c.vx ∧ (c.skd v).kd = v ∧ (c.skd v).ro = c.ro ∧ (c.skd v).he = c.he ∧ (c.skd v).pu = c.pu ∧ (c.skd v).st = c.st ∧ (c.skd v).vs = c.vs ∧ (c.skd v).la = c.la ∧ (c.skd v).tl = c.tl ∧ (c.skd v).dp = c.dp ∧ (c.skd v).lg = c.lg ∧ (c.skd v).hy = c.hy ∧ (c.skd v).pa = c.pa ∧ (c.skd v).K = c.K ∧ (c.skd v).E = c.E ∧ (c.skd v).cn = c.cn ∧ (c.skd v).fk = c.fk ∧ (c.skd v).fv = c.fv ∧ (c.skd v).N = c.N ∧ (c.skd v).rO = c.rO ∧ (c.skd v).rP = c.rP ∧ (c.skd v).rT = c.rT ∧ (c.skd v).rQ = c.rQ ∧ (c.skd v).ar = c.ar := ⟨rfl, rfl, rfl, rfl, rfl, rfl, rfl, rfl, rfl, rfl, rfl, rfl, rfl, rfl, rfl, rfl, rfl, rfl, rfl, rfl, rfl, rfl, rfl, rfl, rfl, rfl, rfl, rfl, rfl, rfl, rfl, rfl⟩
theorem Uro (c : CS) (v : Nat → Nat) : (c.sro v).ck = c.ck ∧ (c.sro v).cc = c.cc ∧ (c.sro v).P = c.P ∧ (c.sro v).cz = c.cz ∧ (c.sro v).nv = c.nv ∧ (c.sro v).f1 = c.f1 ∧ (c.sro v).l1 = c.l1 ∧ (c.sro v).vn = c.vn ∧ (c.sro v).vx = c.vx ∧ (c.sro v).kd = c.kd ∧ (c.sro v).ro = v ∧ (c.sro v).he = c.he ∧ (c.sro v).pu = c.pu ∧ (c.sro v).st = c.st ∧ (c.sro v).vs = c.vs ∧ (c.sro v).la = c.la ∧ (c.sro v).tl = c.tl ∧ (c.sro v).dp = c.dp ∧ (c.sro v).lg = c.lg ∧ (c.sro v).hy = c.hy ∧ (c.sro v).pa = c.pa ∧ (c.sro v).K = c.K ∧ (c.sro v).E = c.E ∧ (c.sro v).cn = c.cn ∧ (c.sro v).fk = c.fk ∧ (c.sro v).fv = c.fv ∧ (c.sro v).N = c.N ∧ (c.sro v).rO = c.rO ∧ (c.sro v).rP = c.rP ∧ (c.sro v).rT = c.rT ∧ (c.sro v).rQ = c.rQ ∧ (c.sro v).ar = c.ar := ⟨rfl, rfl, rfl, rfl, rfl, rfl, rfl, rfl, rfl, rfl, rfl, rfl, rfl, rfl, rfl, rfl, rfl, rfl, rfl, rfl, rfl, rfl, rfl, rfl, rfl, rfl, rfl, rfl, rfl, rfl, rfl, rfl⟩
theorem Uhe (c : CS) (v : Nat → Nat) : (c.she v).ck = c.ck ∧ (c.she v).cc = c.cc ∧ (c.she v).P = c.P ∧ (c.she v).cz = c.cz ∧ (c.she v).nv = c.nv ∧ (c.she v).f1 = c.f1 ∧ (c.she v).l1 = c.l1 ∧ (c.she v).vn = c.vn ∧ (c.she v).vx = c.vx ∧ (c.she v).kd = c.kd ∧ (c.she v).ro = c.ro ∧ (c.she v).he = v ∧ (c.she v).pu = c.pu ∧ (c.she v).st = c.st ∧ (c.she v).vs = c.vs ∧ (c.she v).la = c.la ∧ (c.she v).tl = c.tl ∧ (c.she v).dp = c.dp ∧ (c.she v).lg = c.lg ∧ (c.she v).hy = c.hy ∧ (c.she v).pa = c.pa ∧ (c.she v).K = c.K ∧ (c.she v).E = c.E ∧ (c.she v).cn = c.cn ∧ (c.she v).fk = c.fk ∧ (c.she v).fv = c.fv ∧ (c.she v).N = c.N ∧ (c.she v).rO = c.rO ∧ (c.she v).rP = c.rP ∧ (c.she v).rT = c.rT ∧ (c.she v).rQ = c.rQ ∧ (c.she v).ar = c.ar := ⟨rfl, rfl, rfl, rfl, rfl, rfl, rfl, rfl, rfl, rfl, rfl, rfl, rfl, rfl, rfl, rfl, rfl, rfl, rfl, rfl, rfl, rfl, rfl, rfl, rfl, rfl, rfl, rfl, rfl, rfl, rfl, rfl⟩
theorem Upu (c : CS) (v : Nat → Int32) : (c.spu v).ck = c.ck ∧ (c.spu v).cc = c.cc ∧ (c.spu v).P = c.P ∧ (c.spu v).cz = c.cz ∧ (c.spu v).nv = c.nv ∧ (c.spu v).f1 = c.f1 ∧ (c.spu v).l1 = c.l1 ∧ (c.spu v).vn = c.vn ∧ (c.spu v).vx = c.vx ∧ (c.spu v).kd = c.kd ∧ (c.spu v).ro = c.ro ∧ (c.spu v).he = c.he ∧ (c.spu v).pu = v ∧ (c.spu v).st = c.st ∧ (c.spu v).vs = c.vs ∧ (c.spu v).la = c.la ∧ (c.spu v).tl = c.tl ∧ (c.spu v).dp = c.dp ∧ (c.spu v).lg = c.lg ∧ (c.spu v).hy = c.hy ∧ (c.spu v).pa = c.pa ∧ (c.spu v).K = c.K ∧ (c.spu v).E = c.E ∧ (c.spu v).cn = c.cn ∧ (c.spu v).fk = c.fk ∧ (c.spu v).fv = c.fv ∧ (c.spu v).N = c.N ∧ (c.spu v).rO = c.rO ∧ (c.spu v).rP = c.rP ∧ (c.spu v).rT = c.rT ∧ (c.spu v).rQ = c.rQ ∧ (c.spu v).ar = c.ar := ⟨rfl, rfl, rfl, rfl, rfl, rfl, rfl, rfl, rfl, rfl, rfl, rfl, rfl, rfl, rfl, rfl, rfl, rfl, rfl, rfl, rfl, rfl, rfl, rfl, rfl, rfl, rfl, rfl, rfl, rfl, rfl, rfl⟩
theorem Ust (c : CS) (v : Nat → Int32) : (c.sst v).ck = c.ck ∧ (c.sst v).cc = c.cc ∧ (c.sst v).P = c.P ∧ (c.sst v).cz = c.cz ∧ (c.sst v).nv = c.nv ∧ (c.sst v).f1 = c.f1 ∧ (c.sst v).l1 = c.l1 ∧ (c.sst v).vn = c.vn ∧ (c.sst v).vx = c.vx ∧ (c.sst v).kd = c.kd ∧ (c.sst v).ro = c.ro ∧ (c.sst v).he = c.he ∧ (c.sst v).pu = c.pu ∧ (c.sst v).st = v ∧ (c.sst v).vs = c.vs ∧ (c.sst v).la = c.la ∧ (c.sst v).tl = c.tl ∧ (c.sst v).dp = c.dp ∧ (c.sst v).lg = c.lg ∧ (c.sst v).hy = c.hy ∧ (c.sst v).pa = c.pa ∧ (c.sst v).K = c.K ∧ (c.sst v).E = c.E ∧ (c.sst v).cn = c.cn ∧ (c.sst v).fk = c.fk ∧ (c.sst v).fv = c.fv ∧ (c.sst v).N = c.N ∧ (c.sst v).rO = c.rO ∧ (c.sst v).rP = c.rP ∧ (c.sst v).rT = c.rT ∧ (c.sst v).rQ = c.rQ ∧ (c.sst v).ar = c.ar := ⟨rfl, rfl, rfl, rfl, rfl, rfl, rfl, rfl, rfl, rfl, rfl, rfl, rfl, rfl, rfl, rfl, rfl, rfl, rfl, rfl, rfl, rfl, rfl, rfl, rfl, rfl, rfl, rfl, rfl, rfl, rfl, rfl⟩
theorem Uvs (c : CS) (v : Nat → Nat) : (c.svs v).ck = c.ck ∧ (c.svs v).cc = c.cc ∧ (c.svs v).P = c.P ∧ (c.svs v).cz = c.cz ∧ (c.svs v).nv = c.nv ∧ (c.svs v).f1 = c.f1 ∧ (c.svs v).l1 = c.l1 ∧ (c.svs v).vn = c.vn ∧ (c.svs v).vx = c.vx ∧ (c.svs v).kd = c.kd ∧ (c.svs v).ro = c.ro ∧ (c.svs v).he = c.he ∧ (c.svs v).pu = c.pu ∧ (c.svs v).st = c.st ∧ (c.svs v).vs = v ∧ (c.svs v).la = c.la ∧ (c.svs v).tl = c.tl ∧ (c.svs v).dp = c.dp ∧ (c.svs v).lg = c.lg ∧ (c.svs v).hy = c.hy ∧ (c.svs v).pa = c.pa ∧ (c.svs v).K = c.K ∧ (c.svs v).E = c.E ∧ (c.svs v).cn = c.cn ∧ (c.svs v).fk = c.fk ∧ (c.svs v).fv = c.fv ∧ (c.svs v).N = c.N ∧ (c.svs v).rO = c.rO ∧ (c.svs v).rP = c.rP ∧ (c.svs v).rT = c.rT ∧ (c.svs v).rQ = c.rQ ∧ (c.svs v).ar = c.ar := ⟨rfl, rfl, rfl, rfl, rfl, rfl, rfl, rfl, rfl, rfl, rfl, rfl, rfl, rfl, rfl, rfl, rfl, rfl, rfl, rfl, rfl, rfl, rfl, rfl, rfl, rfl, rfl, rfl, rfl, rfl, rfl, rfl⟩
theorem Ula (c : CS) (v : Nat → Nat) : (c.sla v).ck = c.ck ∧ (c.sla v).cc = c.cc ∧ (c.sla v).P = c.P ∧ (c.sla v).cz = c.cz ∧ (c.sla v).nv = c.nv ∧ (c.sla v).f1 = c.f1 ∧ (c.sla v).l1 = c.l1 ∧ (c.sla v).vn = c.vn ∧ (c.sla v).vx = c.vx ∧ (c.sla v).kd = c.kd ∧ (c.sla v).ro = c.ro ∧ (c.sla v).he = c.he ∧ (c.sla v).pu = c.pu ∧ (c.sla v).st = c.st ∧ (c.sla v).vs = c.vs ∧ (c.sla v).la = v ∧ (c.sla v).tl = c.tl ∧ (c.sla v).dp = c.dp ∧ (c.sla v).lg = c.lg ∧ (c.sla v).hy = c.hy ∧ (c.sla v).pa = c.pa ∧ (c.sla v).K = c.K ∧ (c.sla v).E = c.E ∧ (c.sla v).cn = c.cn ∧ (c.sla v).fk = c.fk ∧ (c.sla v).fv = c.fv ∧ (c.sla v).N = c.N ∧ (c.sla v).rO = c.rO ∧ (c.sla v).rP = c.rP ∧ (c.sla v).rT = c.rT ∧ (c.sla v).rQ = c.rQ ∧ (c.sla v).ar = c.ar := ⟨rfl, rfl, rfl, rfl, rfl, rfl, rfl, rfl, rfl, rfl, rfl, rfl, rfl, rfl, rfl, rfl, rfl, rfl, rfl, rfl, rfl, rfl, rfl, rfl, rfl, rfl, rfl, rfl, rfl, rfl, rfl, rfl⟩
theorem Utl (c : CS) (v : Nat → Nat) : (c.stl v).ck = c.ck ∧ (c.stl v).cc = c.cc ∧ (c.stl v).P = c.P ∧ (c.stl v).cz = c.cz ∧ (c.stl v).nv = c.nv ∧ (c.stl v).f1 = c.f1 ∧ (c.stl v).l1 = c.l1 ∧ (c.stl v).vn = c.vn ∧ (c.stl v).vx = c.vx ∧ (c.stl v).kd = c.kd ∧ (c.stl v).ro = c.ro ∧ (c.stl v).he = c.he ∧ (c.stl v).pu = c.pu ∧ (c.stl v).st = c.st ∧ (c.stl v).vs = c.vs ∧ (c.stl v).la = c.la ∧ (c.stl v).tl = v ∧ (c.stl v).dp = c.dp ∧ (c.stl v).lg = c.lg ∧ (c.stl v).hy = c.hy ∧ (c.stl v).pa = c.pa ∧ (c.stl v).K = c.K ∧ (c.stl v).E = c.E ∧ (c.stl v).cn = c.cn ∧ (c.stl v).fk = c.fk ∧ (c.stl v).fv = c.fv ∧ (c.stl v).N = c.N ∧ (c.stl v).rO = c.rO ∧ (c.stl v).rP = c.rP ∧ (c.stl v).rT = c.rT ∧ (c.stl v).rQ = c.rQ ∧ (c.stl v).ar = c.ar := ⟨rfl, rfl, rfl, rfl, rfl, rfl, rfl, rfl, rfl, rfl, rfl, rfl, rfl, rfl, rfl, rfl, rfl, rfl, rfl, rfl, rfl, rfl, rfl, rfl, rfl, rfl, rfl, rfl, rfl, rfl, rfl, rfl⟩
theorem Udp (c : CS) (v : Nat → Nat) : (c.sdp v).ck = c.ck ∧ (c.sdp v).cc = c.cc ∧ (c.sdp v).P = c.P ∧ (c.sdp v).cz = c.cz ∧ (c.sdp v).nv = c.nv ∧ (c.sdp v).f1 = c.f1 ∧ (c.sdp v).l1 = c.l1 ∧ (c.sdp v).vn = c.vn ∧ (c.sdp v).vx = c.vx ∧ (c.sdp v).kd = c.kd ∧ (c.sdp v).ro = c.ro ∧ (c.sdp v).he = c.he ∧ (c.sdp v).pu = c.pu ∧ (c.sdp v).st = c.st ∧ (c.sdp v).vs = c.vs ∧ (c.sdp v).la = c.la ∧ (c.sdp v).tl = c.tl ∧ (c.sdp v).dp = v ∧ (c.sdp v).lg = c.lg ∧ (c.sdp v).hy = c.hy ∧ (c.sdp v).pa = c.pa ∧ (c.sdp v).K = c.K ∧ (c.sdp v).E = c.E ∧ (c.sdp v).cn = c.cn ∧ (c.sdp v).fk = c.fk ∧ (c.sdp v).fv = c.fv ∧ (c.sdp v).N = c.N ∧ (c.sdp v).rO = c.rO ∧ (c.sdp v).rP = c.rP ∧ (c.sdp v).rT = c.rT ∧ (c.sdp v).rQ = c.rQ ∧ (c.sdp v).ar = c.ar := ⟨rfl, rfl, rfl, rfl, rfl, rfl, rfl, rfl, rfl, rfl, rfl, rfl, rfl, rfl, rfl, rfl, rfl, rfl, rfl, rfl, rfl, rfl, rfl, rfl, rfl, rfl, rfl, rfl, rfl, rfl, rfl, rfl⟩
theorem Ulg (c : CS) (v : Nat → Nat) : (c.slg v).ck = c.ck ∧ (c.slg v).cc = c.cc ∧ (c.slg v).P = c.P ∧ (c.slg v).cz = c.cz ∧ (c.slg v).nv = c.nv ∧ (c.slg v).f1 = c.f1 ∧ (c.slg v).l1 = c.l1 ∧ (c.slg v).vn = c.vn ∧ (c.slg v).vx = c.vx ∧ (c.slg v).kd = c.kd ∧ (c.slg v).ro = c.ro ∧ (c.slg v).he = c.he ∧ (c.slg v).pu = c.pu ∧ (c.slg v).st = c.st ∧ (c.slg v).vs = c.vs ∧ (c.slg v).la = c.la ∧ (c.slg v).tl = c.tl ∧ (c.slg v).dp = c.dp ∧ (c.slg v).lg = v ∧ (c.slg v).hy = c.hy ∧ (c.slg v).pa = c.pa ∧ (c.slg v).K = c.K ∧ (c.slg v).E = c.E ∧ (c.slg v).cn = c.cn ∧ (c.slg v).fk = c.fk ∧ (c.slg v).fv = c.fv ∧ (c.slg v).N = c.N ∧ (c.slg v).rO = c.rO ∧ (c.slg v).rP = c.rP ∧ (c.slg v).rT = c.rT ∧ (c.slg v).rQ = c.rQ ∧ (c.slg v).ar = c.ar := ⟨rfl, rfl, rfl, rfl, rfl, rfl, rfl, rfl, rfl, rfl, rfl, rfl, rfl, rfl, rfl, rfl, rfl, rfl, rfl, rfl, rfl, rfl, rfl, rfl, rfl, rfl, rfl, rfl, rfl, rfl, rfl, rfl⟩
theorem Uhy (c : CS) (v : Nat → Nat) : (c.shy v).ck = c.ck ∧ (c.shy v).cc = c.cc ∧ (c.shy v).P = c.P ∧ (c.shy v).cz = c.cz ∧ (c.shy v).nv = c.nv ∧ (c.shy v).f1 = c.f1 ∧ (c.shy v).l1 = c.l1 ∧ (c.shy v).vn = c.vn ∧ (c.shy v).vx = c.vx ∧ (c.shy v).kd = c.kd ∧ (c.shy v).ro = c.ro ∧ (c.shy v).he = c.he ∧ (c.shy v).pu = c.pu ∧ (c.shy v).st = c.st ∧ (c.shy v).vs = c.vs ∧ (c.shy v).la = c.la ∧ (c.shy v).tl = c.tl ∧ (c.shy v).dp = c.dp ∧ (c.shy v).lg = c.lg ∧ (c.shy v).hy = v ∧ (c.shy v).pa = c.pa ∧ (c.shy v).K = c.K ∧ (c.shy v).E = c.E ∧ (c.shy v).cn = c.cn ∧ (c.shy v).fk = c.fk ∧ (c.shy v).fv = c.fv ∧ (c.shy v).N = c.N ∧ (c.shy v).rO = c.rO ∧ (c.shy v).rP = c.rP ∧ (c.shy v).rT = c.rT ∧ (c.shy v).rQ = c.rQ ∧ (c.shy v).ar = c.ar := ⟨rfl, rfl, rfl, rfl, rfl, rfl, rfl, rfl, rfl, rfl, rfl, rfl, rfl, rfl, rfl, rfl, rfl, rfl, rfl, rfl, rfl, rfl, rfl, rfl, rfl, rfl, rfl, rfl, rfl, rfl, rfl, rfl⟩
theorem Upa (c : CS) (v : Nat → Nat) : (c.spa v).ck = c.ck ∧ (c.spa v).cc = c.cc ∧ (c.spa v).P = c.P ∧ (c.spa v).cz = c.cz ∧ (c.spa v).nv = c.nv ∧ (c.spa v).f1 = c.f1 ∧ (c.spa v).l1 = c.l1 ∧ (c.spa v).vn = c.vn ∧ (c.spa v).vx = c.vx ∧ (c.spa v).kd = c.kd ∧ (c.spa v).ro = c.ro ∧ (c.spa v).he = c.he ∧ (c.spa v).pu = c.pu ∧ (c.spa v).st = c.st ∧ (c.spa v).vs = c.vs ∧ (c.spa v).la = c.la ∧ (c.spa v).tl = c.tl ∧ (c.spa v).dp = c.dp ∧ (c.spa v).lg = c.lg ∧ (c.spa v).hy = c.hy ∧ (c.spa v).pa = v ∧ (c.spa v).K = c.K ∧ (c.spa v).E = c.E ∧ (c.spa v).cn = c.cn ∧ (c.spa v).fk = c.fk ∧ (c.spa v).fv = c.fv ∧ (c.spa v).N = c.N ∧ (c.spa v).rO = c.rO ∧ (c.spa v).rP = c.rP ∧ (c.spa v).rT = c.rT ∧ (c.spa v).rQ = c.rQ ∧ (c.spa v).ar = c.ar := ⟨rfl, rfl, rfl, rfl, rfl, rfl, rfl, rfl, rfl, rfl, rfl, rfl, rfl, rfl, rfl, rfl, rfl, rfl, rfl, rfl, rfl, rfl, rfl, rfl, rfl, rfl, rfl, rfl, rfl, rfl, rfl, rfl⟩
theorem UK (c : CS) (v : Nat) : (c.sK v).ck = c.ck ∧ (c.sK v).cc = c.cc ∧ (c.sK v).P = c.P ∧ (c.sK v).cz = c.cz ∧ (c.sK v).nv = c.nv ∧ (c.sK v).f1 = c.f1 ∧ (c.sK v).l1 = c.l1 ∧ (c.sK v).vn = c.vn ∧ (c.sK v).vx = c.vx ∧ (c.sK v).kd = c.kd ∧ (c.sK v).ro = c.ro ∧ (c.sK v).he = c.he ∧ (c.sK v).pu = c.pu ∧ (c.sK v).st = c.st ∧ (c.sK v).vs = c.vs ∧ (c.sK v).la = c.la ∧ (c.sK v).tl = c.tl ∧ (c.sK v).dp = c.dp ∧ (c.sK v).lg = c.lg ∧ (c.sK v).hy = c.hy ∧ (c.sK v).pa = c.pa ∧ (c.sK v).K = v ∧ (c.sK v).E = c.E ∧ (c.sK v).cn = c.cn ∧ (c.sK v).fk = c.fk ∧ (c.sK v).fv = c.fv ∧ (c.sK v).N = c.N ∧ (c.sK v).rO = c.rO ∧ (c.sK v).rP = c.rP ∧ (c.sK v).rT = c.rT ∧ (c.sK v).rQ = c.rQ ∧ (c.sK v).ar = c.ar := ⟨rfl, rfl, rfl, rfl, rfl, rfl, rfl, rfl, rfl, rfl, rfl, rfl, rfl, rfl, rfl, rfl, rfl, rfl, rfl, rfl, rfl, rfl, rfl, rfl, rfl, rfl, rfl, rfl, rfl, rfl, rfl, rfl⟩
theorem UE (c : CS) (v : Nat) : (c.sE v).ck = c.ck ∧ (c.sE v).cc = c.cc ∧ (c.sE v).P = c.P ∧ (c.sE v).cz = c.cz ∧ (c.sE v).nv = c.nv ∧ (c.sE v).f1 = c.f1 ∧ (c.sE v).l1 = c.l1 ∧ (c.sE v).vn = c.vn ∧ (c.sE v).vx = c.vx ∧ (c.sE v).kd = c.kd ∧ (c.sE v).ro = c.ro ∧ (c.sE v).he = c.he ∧ (c.sE v).pu = c.pu ∧ (c.sE v).st = c.st ∧ (c.sE v).vs = c.vs ∧ (c.sE v).la = c.la ∧ (c.sE v).tl = c.tl ∧ (c.sE v).dp = c.dp ∧ (c.sE v).lg = c.lg ∧ (c.sE v).hy = c.hy ∧ (c.sE v).pa = c.pa ∧ (c.sE v).K = c.K ∧ (c.sE v).E = v ∧ (c.sE v).cn = c.cn ∧ (c.sE v).fk = c.fk ∧ (c.sE v).fv = c.fv ∧ (c.sE v).N = c.N ∧ (c.sE v).rO = c.rO ∧ (c.sE v).rP = c.rP ∧ (c.sE v).rT = c.rT ∧ (c.sE v).rQ = c.rQ ∧ (c.sE v).ar = c.ar := ⟨rfl, rfl, rfl, rfl, rfl, rfl, rfl, rfl, rfl, rfl, rfl, rfl, rfl, rfl, rfl, rfl, rfl, rfl, rfl, rfl, rfl, rfl, rfl, rfl, rfl, rfl, rfl, rfl, rfl, rfl, rfl, rfl⟩
theorem Ucn (c : CS) (v : Nat) : (c.scn v).ck = c.ck ∧ (c.scn v).cc = c.cc ∧ (c.scn v).P = c.P ∧ (c.scn v).cz = c.cz ∧ (c.scn v).nv = c.nv ∧ (c.scn v).f1 = c.f1 ∧ (c.scn v).l1 = c.l1 ∧ (c.scn v).vn = c.vn ∧ (c.scn v).vx = c.vx ∧ (c.scn v).kd = c.kd ∧ (c.scn v).ro = c.ro ∧ (c.scn v).he = c.he ∧ (c.scn v).pu = c.pu ∧ (c.scn v).st = c.st ∧ (c.scn v).vs = c.vs ∧ (c.scn v).la = c.la ∧ (c.scn v).tl = c.tl ∧ (c.scn v).dp = c.dp ∧ (c.scn v).lg = c.lg ∧ (c.scn v).hy = c.hy ∧ (c.scn v).pa = c.pa ∧ (c.scn v).K = c.K ∧ (c.scn v).E = c.E ∧ (c.scn v).cn = v ∧ (c.scn v).fk = c.fk ∧ (c.scn v).fv = c.fv ∧ (c.scn v).N = c.N ∧ (c.scn v).rO = c.rO ∧ (c.scn v).rP = c.rP ∧ (c.scn v).rT = c.rT ∧ (c.scn v).rQ = c.rQ ∧ (c.scn v).ar = c.ar := ⟨rfl, rfl, rfl, rfl, rfl, rfl, rfl, rfl, rfl, rfl, rfl, rfl, rfl, rfl, rfl, rfl, rfl, rfl, rfl, rfl, rfl, rfl, rfl, rfl, rfl, rfl, rfl, rfl, rfl, rfl, rfl, rfl⟩
theorem Ufk (c : CS) (v : Int64) : (c.sfk v).ck = c.ck ∧ (c.sfk v).cc = c.cc ∧ (c.sfk v).P = c.P ∧ (c.sfk v).cz = c.cz ∧ (c.sfk v).nv = c.nv ∧ (c.sfk v).f1 = c.f1 ∧ (c.sfk v).l1 = c.l1 ∧ (c.sfk v).vn = c.vn ∧ (c.sfk v).vx = c.vx ∧ (c.sfk v).kd = c.kd ∧ (c.sfk v).ro = c.ro ∧ (c.sfk v).he = c.he ∧ (c.sfk v).pu = c.pu ∧ (c.sfk v).st = c.st ∧ (c.sfk v).vs = c.vs ∧ (c.sfk v).la = c.la ∧ (c.sfk v).tl = c.tl ∧ (c.sfk v).dp = c.dp ∧ (c.sfk v).lg = c.lg ∧ (c.sfk v).hy = c.hy ∧ (c.sfk v).pa = c.pa ∧ (c.sfk v).K = c.K ∧ (c.sfk v).E = c.E ∧ (c.sfk v).cn = c.cn ∧ (c.sfk v).fk = v ∧ (c.sfk v).fv = c.fv ∧ (c.sfk v).N = c.N ∧ (c.sfk v).rO = c.rO ∧ (c.sfk v).rP = c.rP ∧ (c.sfk v).rT = c.rT ∧ (c.sfk v).rQ = c.rQ ∧ (c.sfk v).ar = c.ar := ⟨rfl, rfl, rfl, rfl, rfl, rfl, rfl, rfl, rfl, rfl, rfl, rfl, rfl, rfl, rfl, rfl, rfl, rfl, rfl, rfl, rfl, rfl, rfl, rfl, rfl, rfl, rfl, rfl, rfl, rfl, rfl, rfl⟩
theorem Ufv (c : CS) (v : Int32) : (c.sfv v).ck = c.ck ∧ (c.sfv v).cc = c.cc ∧ (c.sfv v).P = c.P ∧ (c.sfv v).cz = c.cz ∧ (c.sfv v).nv = c.nv ∧ (c.sfv v).f1 = c.f1 ∧ (c.sfv v).l1 = c.l1 ∧ (c.sfv v).vn = c.vn ∧ (c.sfv v).vx = c.vx ∧ (c.sfv v).kd = c.kd ∧ (c.sfv v).ro = c.ro ∧ (c.sfv v).he = c.he ∧ (c.sfv v).pu = c.pu ∧ (c.sfv v).st = c.st ∧ (c.sfv v).vs = c.vs ∧ (c.sfv v).la = c.la ∧ (c.sfv v).tl = c.tl ∧ (c.sfv v).dp = c.dp ∧ (c.sfv v).lg = c.lg ∧ (c.sfv v).hy = c.hy ∧ (c.sfv v).pa = c.pa ∧ (c.sfv v).K = c.K ∧ (c.sfv v).E = c.E ∧ (c.sfv v).cn = c.cn ∧ (c.sfv v).fk = c.fk ∧ (c.sfv v).fv = v ∧ (c.sfv v).N = c.N ∧ (c.sfv v).rO = c.rO ∧ (c.sfv v).rP = c.rP ∧ (c.sfv v).rT = c.rT ∧ (c.sfv v).rQ = c.rQ ∧ (c.sfv v).ar = c.ar := ⟨rfl, rfl, rfl, rfl, rfl, rfl, rfl, rfl, rfl, rfl, rfl, rfl, rfl, rfl, rfl, rfl, rfl, rfl, rfl, rfl, rfl, rfl, rfl, rfl, rfl, rfl, rfl, rfl, rfl, rfl, rfl, rfl⟩
theorem UN (c : CS) (v : Nat) : (c.sN v).ck = c.ck ∧ (c.sN v).cc = c.cc ∧ (c.sN v).P = c.P ∧ (c.sN v).cz = c.cz ∧ (c.sN v).nv = c.nv ∧ (c.sN v).f1 = c.f1 ∧ (c.sN v).l1 = c.l1 ∧ (c.sN v).vn = c.vn ∧ (c.sN v).vx = c.vx ∧ (c.sN v).kd = c.kd ∧ (c.sN v).ro = c.ro ∧ (c.sN v).he = c.he ∧ (c.sN v).pu = c.pu ∧ (c.sN v).st = c.st ∧ (c.sN v).vs = c.vs ∧ (c.sN v).la = c.la ∧ (c.sN v).tl = c.tl ∧ (c.sN v).dp = c.dp ∧ (c.sN v).lg = c.lg ∧ (c.sN v).hy = c.hy ∧ (c.sN v).pa = c.pa ∧ (c.sN v).K = c.K ∧ (c.sN v).E = c.E ∧ (c.sN v).cn = c.cn ∧ (c.sN v).fk = c.fk ∧ (c.sN v).fv = c.fv ∧ (c.sN v).N = v ∧ (c.sN v).rO = c.rO ∧ (c.sN v).rP = c.rP ∧ (c.sN v).rT = c.rT ∧ (c.sN v).rQ = c.rQ ∧ (c.sN v).ar = c.ar := ⟨rfl, rfl, rfl, rfl, rfl, rfl, rfl, rfl, rfl, rfl, rfl, rfl, rfl, rfl, rfl, rfl, rfl, rfl, rfl, rfl, rfl, rfl, rfl, rfl, rfl, rfl, rfl, rfl, rfl, rfl, rfl, rfl⟩
theorem UrO (c : CS) (v : Nat → Int32) : (c.srO v).ck = c.ck ∧ (c.srO v).cc = c.cc ∧ (c.srO v).P = c.P ∧ (c.srO v).cz = c.cz ∧ (c.srO v).nv = c.nv ∧ (c.srO v).f1 = c.f1 ∧ (c.srO v).l1 = c.l1 ∧ (c.srO v).vn = c.vn ∧ (c.srO v).vx = c.vx ∧ (c.srO v).kd = c.kd ∧ (c.srO v).ro = c.ro ∧ (c.srO v).he = c.he ∧ (c.srO v).pu = c.pu ∧ (c.srO v).st = c.st ∧ (c.srO v).vs = c.vs ∧ (c.srO v).la = c.la ∧ (c.srO v).tl = c.tl ∧ (c.srO v).dp = c.dp ∧ (c.srO v).lg = c.lg ∧ (c.srO v).hy = c.hy ∧ (c.srO v).pa = c.pa ∧ (c.srO v).K = c.K ∧ (c.srO v).E = c.E ∧ (c.srO v).cn = c.cn ∧ (c.srO v).fk = c.fk ∧ (c.srO v).fv = c.fv ∧ (c.srO v).N = c.N ∧ (c.srO v).rO = v ∧ (c.srO v).rP = c.rP ∧ (c.srO v).rT = c.rT ∧ (c.srO v).rQ = c.rQ ∧ (c.srO v).ar = c.ar := ⟨rfl, rfl, rfl, rfl, rfl, rfl, rfl, rfl, rfl, rfl, rfl, rfl, rfl, rfl, rfl, rfl, rfl, rfl, rfl, rfl, rfl, rfl, rfl, rfl, rfl, rfl, rfl, rfl, rfl, rfl, rfl, rfl⟩
theorem UrP (c : CS) (v : Nat → Int32) : (c.srP v).ck = c.ck ∧ (c.srP v).cc = c.cc ∧ (c.srP v).P = c.P ∧ (c.srP v).cz = c.cz ∧ (c.srP v).nv = c.nv ∧ (c.srP v).f1 = c.f1 ∧ (c.srP v).l1 = c.l1 ∧ (c.srP v).vn = c.vn ∧ (c.srP v).vx = c.vx ∧ (c.srP v).kd = c.kd ∧ (c.srP v).ro = c.ro ∧ (c.srP v).he = c.he ∧ (c.srP v).pu = c.pu ∧ (c.srP v).st = c.st ∧ (c.srP v).vs = c.vs ∧ (c.srP v).la = c.la ∧ (c.srP v).tl = c.tl ∧ (c.srP v).dp = c.dp ∧ (c.srP v).lg = c.lg ∧ (c.srP v).hy = c.hy ∧ (c.srP v).pa = c.pa ∧ (c.srP v).K = c.K ∧ (c.srP v).E = c.E ∧ (c.srP v).cn = c.cn ∧ (c.srP v).fk = c.fk ∧ (c.srP v).fv = c.fv ∧ (c.srP v).N = c.N ∧ (c.srP v).rO = c.rO ∧ (c.srP v).rP = v ∧ (c.srP v).rT = c.rT ∧ (c.srP v).rQ = c.rQ ∧ (c.srP v).ar = c.ar := ⟨rfl, rfl, rfl, rfl, rfl, rfl, rfl, rfl, rfl, rfl, rfl, rfl, rfl, rfl, rfl, rfl, rfl, rfl, rfl, rfl, rfl, rfl, rfl, rfl, rfl, rfl, rfl, rfl, rfl, rfl, rfl, rfl⟩
theorem UrT (c : CS) (v : Nat → Int32) : (c.srT v).ck = c.ck ∧ (c.srT v).cc = c.cc ∧ (c.srT v).P = c.P ∧ (c.srT v).cz = c.cz ∧ (c.srT v).nv = c.nv ∧ (c.srT v).f1 = c.f1 ∧ (c.srT v).l1 = c.l1 ∧ (c.srT v).vn = c.vn ∧ (c.srT v).vx = c.vx ∧ (c.srT v).kd = c.kd ∧ (c.srT v).ro = c.ro ∧ (c.srT v).he = c.he ∧ (c.srT v).pu = c.pu ∧ (c.srT v).st = c.st ∧ (c.srT v).vs = c.vs ∧ (c.srT v).la = c.la ∧ (c.srT v).tl = c.tl ∧ (c.srT v).dp = c.dp ∧ (c.srT v).lg = c.lg ∧ (c.srT v).hy = c.hy ∧ (c.srT v).pa = c.pa ∧ (c.srT v).K = c.K ∧ (c.srT v).E = c.E ∧ (c.srT v).cn = c.cn ∧ (c.srT v).fk = c.fk ∧ (c.srT v).fv = c.fv ∧ (c.srT v).N = c.N ∧ (c.srT v).rO = c.rO ∧ (c.srT v).rP = c.rP ∧ (c.srT v).rT = v ∧ (c.srT v).rQ = c.rQ ∧ (c.srT v).ar = c.ar := ⟨rfl, rfl, rfl, rfl, rfl, rfl, rfl, rfl, rfl, rfl, rfl, rfl, rfl, rfl, rfl, rfl, rfl, rfl, rfl, rfl, rfl, rfl, rfl, rfl, rfl, rfl, rfl, rfl, rfl, rfl, rfl, rfl⟩
theorem UrQ (c : CS) (v : Nat → Int32) : (c.srQ v).ck = c.ck ∧ (c.srQ v).cc = c.cc ∧ (c.srQ v).P = c.P ∧ (c.srQ v).cz = c.cz ∧ (c.srQ v).nv = c.nv ∧ (c.srQ v).f1 = c.f1 ∧ (c.srQ v).l1 = c.l1 ∧ (c.srQ v).vn = c.vn ∧ (c.srQ v).vx = c.vx ∧ (c.srQ v).kd = c.kd ∧ (c.srQ v).ro = c.ro ∧ (c.srQ v).he = c.he ∧ (c.srQ v).pu = c.pu ∧ (c.srQ v).st = c.st ∧ (c.srQ v).vs = c.vs ∧ (c.srQ v).la = c.la ∧ (c.srQ v).tl = c.tl ∧ (c.srQ v).dp = c.dp ∧ (c.srQ v).lg = c.lg ∧ (c.srQ v).hy = c.hy ∧ (c.srQ v).pa = c.pa ∧ (c.srQ v).K = c.K ∧ (c.srQ v).E = c.E ∧ (c.srQ v).cn = c.cn ∧ (c.srQ v).fk = c.fk ∧ (c.srQ v).fv = c.fv ∧ (c.srQ v).N = c.N ∧ (c.srQ v).rO = c.rO ∧ (c.srQ v).rP = c.rP ∧ (c.srQ v).rT = c.rT ∧ (c.srQ v).rQ = v ∧ (c.srQ v).ar = c.ar := ⟨rfl, rfl, rfl, rfl, rfl, rfl, rfl, rfl, rfl, rfl, rfl, rfl, rfl, rfl, rfl, rfl, rfl, rfl, rfl, rfl, rfl, rfl, rfl, rfl, rfl, rfl, rfl, rfl, rfl, rfl, rfl, rfl⟩
theorem Uar (c : CS) (v : Nat → Nat) : (c.sar v).ck = c.ck ∧ (c.sar v).cc = c.cc ∧ (c.sar v).P = c.P ∧ (c.sar v).cz = c.cz ∧ (c.sar v).nv = c.nv ∧ (c.sar v).f1 = c.f1 ∧ (c.sar v).l1 = c.l1 ∧ (c.sar v).vn = c.vn ∧ (c.sar v).vx = c.vx ∧ (c.sar v).kd = c.kd ∧ (c.sar v).ro = c.ro ∧ (c.sar v).he = c.he ∧ (c.sar v).pu = c.pu ∧ (c.sar v).st = c.st ∧ (c.sar v).vs = c.vs ∧ (c.sar v).la = c.la ∧ (c.sar v).tl = c.tl ∧ (c.sar v).dp = c.dp ∧ (c.sar v).lg = c.lg ∧ (c.sar v).hy = c.hy ∧ (c.sar v).pa = c.pa ∧ (c.sar v).K = c.K ∧ (c.sar v).E = c.E ∧ (c.sar v).cn = c.cn ∧ (c.sar v).fk = c.fk ∧ (c.sar v).fv = c.fv ∧ (c.sar v).N = c.N ∧ (c.sar v).rO = c.rO ∧ (c.sar v).rP = c.rP ∧ (c.sar v).rT = c.rT ∧ (c.sar v).rQ = c.rQ ∧ (c.sar v).ar = v := ⟨rfl, rfl, rfl, rfl, rfl, rfl, rfl, rfl, rfl, rfl, rfl, rfl, rfl, rfl, rfl, rfl, rfl, rfl, rfl, rfl, rfl, rfl, rfl, rfl, rfl, rfl, rfl, rfl, rfl, rfl, rfl, rfl⟩
def DS : Type := ((Nat → Nat) × (Nat → Nat) × (Nat → Nat) × (Nat → Nat) × (Nat → Nat) × (Nat → Nat))
def DS.ph (d : DS) : Nat → Nat := d.1
def DS.nid (d : DS) : Nat → Nat := d.2.1
def DS.vh (d : DS) : Nat → Nat := d.2.2.1
def DS.iid (d : DS) : Nat → Nat := d.2.2.2.1
def DS.sa (d : DS) : Nat → Nat := d.2.2.2.2.1
def DS.sid (d : DS) : Nat → Nat := d.2.2.2.2.2
def DS.sph (d : DS) (v : Nat → Nat) : DS := (v, d.2)
def DS.snid (d : DS) (v : Nat → Nat) : DS := (d.1, v, d.2.2)
def DS.svh (d : DS) (v : Nat → Nat) : DS := (d.1, d.2.1, v, d.2.2.2)
def DS.siid (d : DS) (v : Nat → Nat) : DS := (d.1, d.2.1, d.2.2.1, v, d.2.2.2.2)
def DS.ssa (d : DS) (v : Nat → Nat) : DS := (d.1, d.2.1, d.2.2.1, d.2.2.2.1, v, d.2.2.2.2.2)
def DS.ssid (d : DS) (v : Nat → Nat) : DS := (d.1, d.2.1, d.2.2.1, d.2.2.2.1, d.2.2.2.2.1, v)
theorem Vph (d : DS) (v : Nat → Nat) : (d.sph v).ph = v ∧ (d.sph v).nid = d.nid ∧ (d.sph v).vh = d.vh ∧ (d.sph v).iid = d.iid ∧ (d.sph v).sa = d.sa ∧ (d.sph v).sid = d.sid := ⟨rfl, rfl, rfl, rfl, rfl, rfl⟩
theorem Vnid (d : DS) (v : Nat → Nat) : (d.snid v).ph = d.ph ∧ (d.snid v).nid = v ∧ (d.snid v).vh = d.vh ∧ (d.snid v).iid = d.iid ∧ (d.snid v).sa = d.sa ∧ (d.snid v).sid = d.sid := ⟨rfl, rfl, rfl, rfl, rfl, rfl⟩
theorem Vvh (d : DS) (v : Nat → Nat) : (d.svh v).ph = d.ph ∧ (d.svh v).nid = d.nid ∧ (d.svh v).vh = v ∧ (d.svh v).iid = d.iid ∧ (d.svh v).sa = d.sa ∧ (d.svh v).sid = d.sid := ⟨rfl, rfl, rfl, rfl, rfl, rfl⟩
theorem Viid (d : DS) (v : Nat → Nat) : (d.siid v).ph = d.ph ∧ (d.siid v).nid = d.nid ∧ (d.siid v).vh = d.vh ∧ (d.siid v).iid = v ∧ (d.siid v).sa = d.sa ∧ (d.siid v).sid = d.sid := ⟨rfl, rfl, rfl, rfl, rfl, rfl⟩
theorem Vsa (d : DS) (v : Nat → Nat) : (d.ssa v).ph = d.ph ∧ (d.ssa v).nid = d.nid ∧ (d.ssa v).vh = d.vh ∧ (d.ssa v).iid = d.iid ∧ (d.ssa v).sa = v ∧ (d.ssa v).sid = d.sid := ⟨rfl, rfl, rfl, rfl, rfl, rfl⟩
theorem Vsid (d : DS) (v : Nat → Nat) : (d.ssid v).ph = d.ph ∧ (d.ssid v).nid = d.nid ∧ (d.ssid v).vh = d.vh ∧ (d.ssid v).iid = d.iid ∧ (d.ssid v).sa = d.sa ∧ (d.ssid v).sid = v := ⟨rfl, rfl, rfl, rfl, rfl, rfl⟩
def DW (d : DS) : Prop := (d.ph 0 = 0 ∧ d.vh 0 = 0 ∧ d.sa 0 = 0 ∧ d.nid 0 = 0 ∧ d.iid 0 = 0 ∧ d.sid 0 = 0) ∧ (∀ x, d.nid x ≠ 0 → d.ph (d.nid x) = x) ∧ (∀ x, d.iid x ≠ 0 → d.vh (d.iid x) = x) ∧ (∀ x, d.sid x ≠ 0 → d.sa (d.sid x) = x)
theorem phI {d : DS} {a b : Nat} (ha : d.nid (d.ph a) = a) (hb : d.nid (d.ph b) = b) : d.ph a = d.ph b ↔ a = b := ⟨fun e => by rw [← ha, e]; exact hb, fun e => by rw [e]⟩
theorem ph0 {d : DS} (hw : DW d) {a : Nat} (ha : d.nid (d.ph a) = a) : d.ph a = 0 ↔ a = 0 := ⟨fun e => by rw [← ha, e]; exact hw.1.2.2.2.1, fun e => by rw [e]; exact hw.1.1⟩
theorem vhI {d : DS} {a b : Nat} (ha : d.iid (d.vh a) = a) (hb : d.iid (d.vh b) = b) : d.vh a = d.vh b ↔ a = b := ⟨fun e => by rw [← ha, e]; exact hb, fun e => by rw [e]⟩
theorem vh0 {d : DS} (hw : DW d) {a : Nat} (ha : d.iid (d.vh a) = a) : d.vh a = 0 ↔ a = 0 := ⟨fun e => by rw [← ha, e]; exact hw.1.2.2.2.2.1, fun e => by rw [e]; exact hw.1.2.1⟩
theorem saI {d : DS} {a b : Nat} (ha : d.sid (d.sa a) = a) (hb : d.sid (d.sa b) = b) : d.sa a = d.sa b ↔ a = b := ⟨fun e => by rw [← ha, e]; exact hb, fun e => by rw [e]⟩
theorem sa0 {d : DS} (hw : DW d) {a : Nat} (ha : d.sid (d.sa a) = a) : d.sa a = 0 ↔ a = 0 := ⟨fun e => by rw [← ha, e]; exact hw.1.2.2.2.2.2, fun e => by rw [e]; exact hw.1.2.2.1⟩
def clI (h : AH) (d : DS) (c : CS) : Nat → Nat → Int32 := fun f x => if f = 25 then (if d.nid x ≠ 0 then nI (c.cc (d.nid x)) else h.1.1 f x) else if f = 29 then (if d.nid x ≠ 0 then nI (c.cz (d.nid x)) else h.1.1 f x) else if f = 30 then (if d.nid x ≠ 0 then nI (c.nv (d.nid x)) else h.1.1 f x) else if f = 33 then (if d.iid x ≠ 0 then c.vn (d.iid x) else h.1.1 f x) else if f = 12 then (if d.sid x ≠ 0 then nI (c.kd (d.sid x - 1)) else h.1.1 f x) else if f = 14 then (if d.sid x ≠ 0 then nI (c.he (d.sid x - 1)) else h.1.1 f x) else if f = 15 then (if d.sid x ≠ 0 then c.pu (d.sid x - 1) else h.1.1 f x) else if f = 16 then (if d.sid x ≠ 0 then c.st (d.sid x - 1) else h.1.1 f x) else if f = 17 then (if d.sid x ≠ 0 then nI (c.vs (d.sid x - 1)) else h.1.1 f x) else if f = 20 then (if d.sid x ≠ 0 then nI (c.dp (d.sid x - 1)) else h.1.1 f x) else if f = 21 then (if d.sid x ≠ 0 then nI (c.lg (d.sid x - 1)) else h.1.1 f x) else if f = 22 then (if d.sid x ≠ 0 then nI (c.hy (d.sid x - 1)) else h.1.1 f x) else if f = 2 then (if x = 1 then nI c.K else h.1.1 f x) else if f = 3 then (if x = 1 then nI c.E else h.1.1 f x) else if f = 4 then (if x = 1 then nI c.cn else h.1.1 f x) else if f = 6 then (if x = 1 then c.fv else h.1.1 f x) else if f = 11 then (if x = 3 then nI c.N else h.1.1 f x) else h.1.1 f x
def clL (h : AH) (d : DS) (c : CS) : Nat → Nat → Int64 := fun f x => if f = 24 then (if d.nid x ≠ 0 then c.ck (d.nid x) else h.1.2.1 f x) else if f = 5 then (if x = 1 then c.fk else h.1.2.1 f x) else h.1.2.1 f x
def clR (h : AH) (d : DS) (c : CS) : Nat → Nat → Nat := fun f x => if f = 26 then (if d.nid x ≠ 0 then d.ph (c.P.1 (d.nid x)) else h.1.2.2 f x) else if f = 27 then (if d.nid x ≠ 0 then d.ph (c.P.2.1 (d.nid x)) else h.1.2.2 f x) else if f = 28 then (if d.nid x ≠ 0 then d.ph (c.P.2.2 (d.nid x)) else h.1.2.2 f x) else if f = 31 then (if d.nid x ≠ 0 then d.vh (c.f1 (d.nid x)) else h.1.2.2 f x) else if f = 32 then (if d.nid x ≠ 0 then d.vh (c.l1 (d.nid x)) else h.1.2.2 f x) else if f = 34 then (if d.iid x ≠ 0 then d.vh (c.vx (d.iid x)) else h.1.2.2 f x) else if f = 13 then (if d.sid x ≠ 0 then d.ph (c.ro (d.sid x - 1)) else h.1.2.2 f x) else if f = 18 then (if d.sid x ≠ 0 then d.ph (c.la (d.sid x - 1)) else h.1.2.2 f x) else if f = 19 then (if d.sid x ≠ 0 then c.tl (d.sid x - 1) else h.1.2.2 f x) else if f = 23 then (if d.sid x ≠ 0 then c.pa (d.sid x - 1) else h.1.2.2 f x) else h.1.2.2 f x
def clA (h : AH) (c : CS) : Nat → Nat → Int32 := fun a i => if a = 4 then c.rO i else if a = 5 then c.rP i else if a = 6 then c.rT i else if a = 7 then c.rQ i else h.2.1.1 a i
def clS (h : AH) (d : DS) (c : CS) : Nat → Nat → Nat := fun a i => if a = 2 then d.sa (c.ar i) else h.2.1.2.2 a i
def cl (h : AH) (d : DS) (c : CS) : AH := ((clI h d c, clL h d c, clR h d c), (clA h c, h.2.1.2.1, clS h d c), h.2.2)
theorem Hcl (h : AH) (d : DS) (c : CS) : (fI (cl h d c) 2 1 = nI c.K) ∧ (fI (cl h d c) 3 1 = nI c.E) ∧ (fI (cl h d c) 4 1 = nI c.cn) ∧ (fI (cl h d c) 6 1 = c.fv) ∧ (fI (cl h d c) 11 3 = nI c.N) ∧ (fL (cl h d c) 5 1 = c.fk) ∧ (∀ i, eI (cl h d c) 4 i = c.rO i) ∧ (∀ i, eI (cl h d c) 5 i = c.rP i) ∧ (∀ i, eI (cl h d c) 6 i = c.rT i) ∧ (∀ i, eI (cl h d c) 7 i = c.rQ i) ∧ (∀ i, eR (cl h d c) 2 i = d.sa (c.ar i)) ∧ (∀ f a, eL (cl h d c) f a = eL h f a) ∧ (∀ a, tg (cl h d c) a = tg h a) ∧ (∀ a, ln (cl h d c) a = ln h a) ∧ (nn (cl h d c) = nn h) ∧ (sl (cl h d c) = sl h) ∧ (∀ a, fR (cl h d c) 0 a = fR h 0 a) ∧ (∀ a, fR (cl h d c) 1 a = fR h 1 a) ∧ (∀ a, fR (cl h d c) 7 a = fR h 7 a) ∧ (∀ a, fR (cl h d c) 8 a = fR h 8 a) ∧ (∀ a, fR (cl h d c) 9 a = fR h 9 a) ∧ (∀ a, fR (cl h d c) 10 a = fR h 10 a) ∧ (∀ a, fR (cl h d c) 35 a = fR h 35 a) ∧ (∀ a, fI (cl h d c) 36 a = fI h 36 a) := ⟨rfl, rfl, rfl, rfl, rfl, rfl, fun _ => rfl, fun _ => rfl, fun _ => rfl, fun _ => rfl, fun _ => rfl, fun _ _ => rfl, fun _ => rfl, fun _ => rfl, rfl, rfl, fun _ => rfl, fun _ => rfl, fun _ => rfl, fun _ => rfl, fun _ => rfl, fun _ => rfl, fun _ => rfl, fun _ => rfl⟩
theorem Rn (d : DS) {a : Nat} (hd : d.nid (d.ph a) = a) (a0 : a ≠ 0) (h : AH) (c : CS) : (fI (cl h d c) 25 (d.ph a) = nI (c.cc a)) ∧ (fI (cl h d c) 29 (d.ph a) = nI (c.cz a)) ∧ (fI (cl h d c) 30 (d.ph a) = nI (c.nv a)) ∧ (fL (cl h d c) 24 (d.ph a) = c.ck a) ∧ (fR (cl h d c) 26 (d.ph a) = d.ph (c.P.1 a)) ∧ (fR (cl h d c) 27 (d.ph a) = d.ph (c.P.2.1 a)) ∧ (fR (cl h d c) 28 (d.ph a) = d.ph (c.P.2.2 a)) ∧ (fR (cl h d c) 31 (d.ph a) = d.vh (c.f1 a)) ∧ (fR (cl h d c) 32 (d.ph a) = d.vh (c.l1 a)) := by
  exact ⟨by show (if d.nid (d.ph a) ≠ 0 then nI (c.cc (d.nid (d.ph a))) else h.1.1 25 (d.ph a)) = _; rw [hd, if_pos a0], by show (if d.nid (d.ph a) ≠ 0 then nI (c.cz (d.nid (d.ph a))) else h.1.1 29 (d.ph a)) = _; rw [hd, if_pos a0], by show (if d.nid (d.ph a) ≠ 0 then nI (c.nv (d.nid (d.ph a))) else h.1.1 30 (d.ph a)) = _; rw [hd, if_pos a0], by show (if d.nid (d.ph a) ≠ 0 then c.ck (d.nid (d.ph a)) else h.1.2.1 24 (d.ph a)) = _; rw [hd, if_pos a0], by show (if d.nid (d.ph a) ≠ 0 then d.ph (c.P.1 (d.nid (d.ph a))) else h.1.2.2 26 (d.ph a)) = _; rw [hd, if_pos a0], by show (if d.nid (d.ph a) ≠ 0 then d.ph (c.P.2.1 (d.nid (d.ph a))) else h.1.2.2 27 (d.ph a)) = _; rw [hd, if_pos a0], by show (if d.nid (d.ph a) ≠ 0 then d.ph (c.P.2.2 (d.nid (d.ph a))) else h.1.2.2 28 (d.ph a)) = _; rw [hd, if_pos a0], by show (if d.nid (d.ph a) ≠ 0 then d.vh (c.f1 (d.nid (d.ph a))) else h.1.2.2 31 (d.ph a)) = _; rw [hd, if_pos a0], by show (if d.nid (d.ph a) ≠ 0 then d.vh (c.l1 (d.nid (d.ph a))) else h.1.2.2 32 (d.ph a)) = _; rw [hd, if_pos a0]⟩
theorem Ri (d : DS) {a : Nat} (hd : d.iid (d.vh a) = a) (a0 : a ≠ 0) (h : AH) (c : CS) : (fI (cl h d c) 33 (d.vh a) = c.vn a) ∧ (fR (cl h d c) 34 (d.vh a) = d.vh (c.vx a)) := by
  exact ⟨by show (if d.iid (d.vh a) ≠ 0 then c.vn (d.iid (d.vh a)) else h.1.1 33 (d.vh a)) = _; rw [hd, if_pos a0], by show (if d.iid (d.vh a) ≠ 0 then d.vh (c.vx (d.iid (d.vh a))) else h.1.2.2 34 (d.vh a)) = _; rw [hd, if_pos a0]⟩
theorem Rs (d : DS) {s : Nat} (hd : d.sid (d.sa (s + 1)) = s + 1) (h : AH) (c : CS) : (fI (cl h d c) 12 (d.sa (s + 1)) = nI (c.kd s)) ∧ (fI (cl h d c) 14 (d.sa (s + 1)) = nI (c.he s)) ∧ (fI (cl h d c) 15 (d.sa (s + 1)) = c.pu s) ∧ (fI (cl h d c) 16 (d.sa (s + 1)) = c.st s) ∧ (fI (cl h d c) 17 (d.sa (s + 1)) = nI (c.vs s)) ∧ (fI (cl h d c) 20 (d.sa (s + 1)) = nI (c.dp s)) ∧ (fI (cl h d c) 21 (d.sa (s + 1)) = nI (c.lg s)) ∧ (fI (cl h d c) 22 (d.sa (s + 1)) = nI (c.hy s)) ∧ (fR (cl h d c) 13 (d.sa (s + 1)) = d.ph (c.ro s)) ∧ (fR (cl h d c) 18 (d.sa (s + 1)) = d.ph (c.la s)) ∧ (fR (cl h d c) 19 (d.sa (s + 1)) = c.tl s) ∧ (fR (cl h d c) 23 (d.sa (s + 1)) = c.pa s) := by
  exact ⟨by show (if d.sid (d.sa (s + 1)) ≠ 0 then nI (c.kd (d.sid (d.sa (s + 1)) - 1)) else h.1.1 12 (d.sa (s + 1))) = _; rw [hd, if_pos (Nat.succ_ne_zero s), Nat.add_sub_cancel], by show (if d.sid (d.sa (s + 1)) ≠ 0 then nI (c.he (d.sid (d.sa (s + 1)) - 1)) else h.1.1 14 (d.sa (s + 1))) = _; rw [hd, if_pos (Nat.succ_ne_zero s), Nat.add_sub_cancel], by show (if d.sid (d.sa (s + 1)) ≠ 0 then c.pu (d.sid (d.sa (s + 1)) - 1) else h.1.1 15 (d.sa (s + 1))) = _; rw [hd, if_pos (Nat.succ_ne_zero s), Nat.add_sub_cancel], by show (if d.sid (d.sa (s + 1)) ≠ 0 then c.st (d.sid (d.sa (s + 1)) - 1) else h.1.1 16 (d.sa (s + 1))) = _; rw [hd, if_pos (Nat.succ_ne_zero s), Nat.add_sub_cancel], by show (if d.sid (d.sa (s + 1)) ≠ 0 then nI (c.vs (d.sid (d.sa (s + 1)) - 1)) else h.1.1 17 (d.sa (s + 1))) = _; rw [hd, if_pos (Nat.succ_ne_zero s), Nat.add_sub_cancel], by show (if d.sid (d.sa (s + 1)) ≠ 0 then nI (c.dp (d.sid (d.sa (s + 1)) - 1)) else h.1.1 20 (d.sa (s + 1))) = _; rw [hd, if_pos (Nat.succ_ne_zero s), Nat.add_sub_cancel], by show (if d.sid (d.sa (s + 1)) ≠ 0 then nI (c.lg (d.sid (d.sa (s + 1)) - 1)) else h.1.1 21 (d.sa (s + 1))) = _; rw [hd, if_pos (Nat.succ_ne_zero s), Nat.add_sub_cancel], by show (if d.sid (d.sa (s + 1)) ≠ 0 then nI (c.hy (d.sid (d.sa (s + 1)) - 1)) else h.1.1 22 (d.sa (s + 1))) = _; rw [hd, if_pos (Nat.succ_ne_zero s), Nat.add_sub_cancel], by show (if d.sid (d.sa (s + 1)) ≠ 0 then d.ph (c.ro (d.sid (d.sa (s + 1)) - 1)) else h.1.2.2 13 (d.sa (s + 1))) = _; rw [hd, if_pos (Nat.succ_ne_zero s), Nat.add_sub_cancel], by show (if d.sid (d.sa (s + 1)) ≠ 0 then d.ph (c.la (d.sid (d.sa (s + 1)) - 1)) else h.1.2.2 18 (d.sa (s + 1))) = _; rw [hd, if_pos (Nat.succ_ne_zero s), Nat.add_sub_cancel], by show (if d.sid (d.sa (s + 1)) ≠ 0 then c.tl (d.sid (d.sa (s + 1)) - 1) else h.1.2.2 19 (d.sa (s + 1))) = _; rw [hd, if_pos (Nat.succ_ne_zero s), Nat.add_sub_cancel], by show (if d.sid (d.sa (s + 1)) ≠ 0 then c.pa (d.sid (d.sa (s + 1)) - 1) else h.1.2.2 23 (d.sa (s + 1))) = _; rw [hd, if_pos (Nat.succ_ne_zero s), Nat.add_sub_cancel]⟩
theorem cl_cc (h : AH) {d : DS} (hw : DW d) (c : CS) {a : Nat} (hd : d.nid (d.ph a) = a) (a0 : a ≠ 0) (v : Nat) : wI (cl h d c) 25 (d.ph a) (nI v) = cl h d (c.scc (u1 c.cc a v)) := by
  have e : u2 (clI h d c) 25 (d.ph a) (nI v) = clI h d (c.scc (u1 c.cc a v)) := by
    funext f x
    by_cases h1 : f = 25
    · subst h1
      show (if x = d.ph a then (nI v) else (if d.nid x ≠ 0 then nI (c.cc (d.nid x)) else h.1.1 25 x)) = (if d.nid x ≠ 0 then nI ((u1 c.cc a v) (d.nid x)) else h.1.1 25 x)
      by_cases h2 : x = d.ph a
      · rw [if_pos h2, h2, hd, if_pos a0, u1_s]
      · rw [if_neg h2]
        by_cases h3 : d.nid x ≠ 0
        · have : d.nid x ≠ a := fun e => h2 (by rw [← hw.2.1 x h3, e])
          rw [if_pos h3, if_pos h3, u1_o _ _ this]
        · rw [if_neg h3, if_neg h3]
    · unfold u2 clI
      simp only [h1, if_false] <;> rfl
  exact congrArg (fun q => (((q, clL h d c, clR h d c), (clA h c, h.2.1.2.1, clS h d c), h.2.2) : AH)) e
theorem cl_cz (h : AH) {d : DS} (hw : DW d) (c : CS) {a : Nat} (hd : d.nid (d.ph a) = a) (a0 : a ≠ 0) (v : Nat) : wI (cl h d c) 29 (d.ph a) (nI v) = cl h d (c.scz (u1 c.cz a v)) := by
  have e : u2 (clI h d c) 29 (d.ph a) (nI v) = clI h d (c.scz (u1 c.cz a v)) := by
    funext f x
    by_cases h1 : f = 29
    · subst h1
      show (if x = d.ph a then (nI v) else (if d.nid x ≠ 0 then nI (c.cz (d.nid x)) else h.1.1 29 x)) = (if d.nid x ≠ 0 then nI ((u1 c.cz a v) (d.nid x)) else h.1.1 29 x)
      by_cases h2 : x = d.ph a
      · rw [if_pos h2, h2, hd, if_pos a0, u1_s]
      · rw [if_neg h2]
        by_cases h3 : d.nid x ≠ 0
        · have : d.nid x ≠ a := fun e => h2 (by rw [← hw.2.1 x h3, e])
          rw [if_pos h3, if_pos h3, u1_o _ _ this]
        · rw [if_neg h3, if_neg h3]
    · unfold u2 clI
      simp only [h1, if_false] <;> rfl
  exact congrArg (fun q => (((q, clL h d c, clR h d c), (clA h c, h.2.1.2.1, clS h d c), h.2.2) : AH)) e
theorem cl_nv (h : AH) {d : DS} (hw : DW d) (c : CS) {a : Nat} (hd : d.nid (d.ph a) = a) (a0 : a ≠ 0) (v : Nat) : wI (cl h d c) 30 (d.ph a) (nI v) = cl h d (c.snv (u1 c.nv a v)) := by
  have e : u2 (clI h d c) 30 (d.ph a) (nI v) = clI h d (c.snv (u1 c.nv a v)) := by
    funext f x
    by_cases h1 : f = 30
    · subst h1
      show (if x = d.ph a then (nI v) else (if d.nid x ≠ 0 then nI (c.nv (d.nid x)) else h.1.1 30 x)) = (if d.nid x ≠ 0 then nI ((u1 c.nv a v) (d.nid x)) else h.1.1 30 x)
      by_cases h2 : x = d.ph a
      · rw [if_pos h2, h2, hd, if_pos a0, u1_s]
      · rw [if_neg h2]
        by_cases h3 : d.nid x ≠ 0
        · have : d.nid x ≠ a := fun e => h2 (by rw [← hw.2.1 x h3, e])
          rw [if_pos h3, if_pos h3, u1_o _ _ this]
        · rw [if_neg h3, if_neg h3]
    · unfold u2 clI
      simp only [h1, if_false] <;> rfl
  exact congrArg (fun q => (((q, clL h d c, clR h d c), (clA h c, h.2.1.2.1, clS h d c), h.2.2) : AH)) e
theorem cl_vn (h : AH) {d : DS} (hw : DW d) (c : CS) {a : Nat} (hd : d.iid (d.vh a) = a) (a0 : a ≠ 0) (v : Int32) : wI (cl h d c) 33 (d.vh a) v = cl h d (c.svn (u1 c.vn a v)) := by
  have e : u2 (clI h d c) 33 (d.vh a) v = clI h d (c.svn (u1 c.vn a v)) := by
    funext f x
    by_cases h1 : f = 33
    · subst h1
      show (if x = d.vh a then v else (if d.iid x ≠ 0 then c.vn (d.iid x) else h.1.1 33 x)) = (if d.iid x ≠ 0 then (u1 c.vn a v) (d.iid x) else h.1.1 33 x)
      by_cases h2 : x = d.vh a
      · rw [if_pos h2, h2, hd, if_pos a0, u1_s]
      · rw [if_neg h2]
        by_cases h3 : d.iid x ≠ 0
        · have : d.iid x ≠ a := fun e => h2 (by rw [← hw.2.2.1 x h3, e])
          rw [if_pos h3, if_pos h3, u1_o _ _ this]
        · rw [if_neg h3, if_neg h3]
    · unfold u2 clI
      simp only [h1, if_false] <;> rfl
  exact congrArg (fun q => (((q, clL h d c, clR h d c), (clA h c, h.2.1.2.1, clS h d c), h.2.2) : AH)) e
theorem cl_kd (h : AH) {d : DS} (hw : DW d) (c : CS) {s : Nat} (hd : d.sid (d.sa (s + 1)) = s + 1) (v : Nat) : wI (cl h d c) 12 (d.sa (s + 1)) (nI v) = cl h d (c.skd (u1 c.kd s v)) := by
  have e : u2 (clI h d c) 12 (d.sa (s + 1)) (nI v) = clI h d (c.skd (u1 c.kd s v)) := by
    funext f x
    by_cases h1 : f = 12
    · subst h1
      show (if x = d.sa (s + 1) then (nI v) else (if d.sid x ≠ 0 then nI (c.kd (d.sid x - 1)) else h.1.1 12 x)) = (if d.sid x ≠ 0 then nI ((u1 c.kd s v) (d.sid x - 1)) else h.1.1 12 x)
      by_cases h2 : x = d.sa (s + 1)
      · rw [if_pos h2, h2, hd, if_pos (Nat.succ_ne_zero s), Nat.add_sub_cancel, u1_s]
      · rw [if_neg h2]
        by_cases h3 : d.sid x ≠ 0
        · have : d.sid x - 1 ≠ s := fun e => h2 (by rw [← hw.2.2.2 x h3, show d.sid x = s + 1 from by omega])
          rw [if_pos h3, if_pos h3, u1_o _ _ this]
        · rw [if_neg h3, if_neg h3]
    · unfold u2 clI
      simp only [h1, if_false] <;> rfl
  exact congrArg (fun q => (((q, clL h d c, clR h d c), (clA h c, h.2.1.2.1, clS h d c), h.2.2) : AH)) e
theorem cl_he (h : AH) {d : DS} (hw : DW d) (c : CS) {s : Nat} (hd : d.sid (d.sa (s + 1)) = s + 1) (v : Nat) : wI (cl h d c) 14 (d.sa (s + 1)) (nI v) = cl h d (c.she (u1 c.he s v)) := by
  have e : u2 (clI h d c) 14 (d.sa (s + 1)) (nI v) = clI h d (c.she (u1 c.he s v)) := by
    funext f x
    by_cases h1 : f = 14
    · subst h1
      show (if x = d.sa (s + 1) then (nI v) else (if d.sid x ≠ 0 then nI (c.he (d.sid x - 1)) else h.1.1 14 x)) = (if d.sid x ≠ 0 then nI ((u1 c.he s v) (d.sid x - 1)) else h.1.1 14 x)
      by_cases h2 : x = d.sa (s + 1)
      · rw [if_pos h2, h2, hd, if_pos (Nat.succ_ne_zero s), Nat.add_sub_cancel, u1_s]
      · rw [if_neg h2]
        by_cases h3 : d.sid x ≠ 0
        · have : d.sid x - 1 ≠ s := fun e => h2 (by rw [← hw.2.2.2 x h3, show d.sid x = s + 1 from by omega])
          rw [if_pos h3, if_pos h3, u1_o _ _ this]
        · rw [if_neg h3, if_neg h3]
    · unfold u2 clI
      simp only [h1, if_false] <;> rfl
  exact congrArg (fun q => (((q, clL h d c, clR h d c), (clA h c, h.2.1.2.1, clS h d c), h.2.2) : AH)) e
theorem cl_pu (h : AH) {d : DS} (hw : DW d) (c : CS) {s : Nat} (hd : d.sid (d.sa (s + 1)) = s + 1) (v : Int32) : wI (cl h d c) 15 (d.sa (s + 1)) v = cl h d (c.spu (u1 c.pu s v)) := by
  have e : u2 (clI h d c) 15 (d.sa (s + 1)) v = clI h d (c.spu (u1 c.pu s v)) := by
    funext f x
    by_cases h1 : f = 15
    · subst h1
      show (if x = d.sa (s + 1) then v else (if d.sid x ≠ 0 then c.pu (d.sid x - 1) else h.1.1 15 x)) = (if d.sid x ≠ 0 then (u1 c.pu s v) (d.sid x - 1) else h.1.1 15 x)
      by_cases h2 : x = d.sa (s + 1)
      · rw [if_pos h2, h2, hd, if_pos (Nat.succ_ne_zero s), Nat.add_sub_cancel, u1_s]
      · rw [if_neg h2]
        by_cases h3 : d.sid x ≠ 0
        · have : d.sid x - 1 ≠ s := fun e => h2 (by rw [← hw.2.2.2 x h3, show d.sid x = s + 1 from by omega])
          rw [if_pos h3, if_pos h3, u1_o _ _ this]
        · rw [if_neg h3, if_neg h3]
    · unfold u2 clI
      simp only [h1, if_false] <;> rfl
  exact congrArg (fun q => (((q, clL h d c, clR h d c), (clA h c, h.2.1.2.1, clS h d c), h.2.2) : AH)) e
theorem cl_st (h : AH) {d : DS} (hw : DW d) (c : CS) {s : Nat} (hd : d.sid (d.sa (s + 1)) = s + 1) (v : Int32) : wI (cl h d c) 16 (d.sa (s + 1)) v = cl h d (c.sst (u1 c.st s v)) := by
  have e : u2 (clI h d c) 16 (d.sa (s + 1)) v = clI h d (c.sst (u1 c.st s v)) := by
    funext f x
    by_cases h1 : f = 16
    · subst h1
      show (if x = d.sa (s + 1) then v else (if d.sid x ≠ 0 then c.st (d.sid x - 1) else h.1.1 16 x)) = (if d.sid x ≠ 0 then (u1 c.st s v) (d.sid x - 1) else h.1.1 16 x)
      by_cases h2 : x = d.sa (s + 1)
      · rw [if_pos h2, h2, hd, if_pos (Nat.succ_ne_zero s), Nat.add_sub_cancel, u1_s]
      · rw [if_neg h2]
        by_cases h3 : d.sid x ≠ 0
        · have : d.sid x - 1 ≠ s := fun e => h2 (by rw [← hw.2.2.2 x h3, show d.sid x = s + 1 from by omega])
          rw [if_pos h3, if_pos h3, u1_o _ _ this]
        · rw [if_neg h3, if_neg h3]
    · unfold u2 clI
      simp only [h1, if_false] <;> rfl
  exact congrArg (fun q => (((q, clL h d c, clR h d c), (clA h c, h.2.1.2.1, clS h d c), h.2.2) : AH)) e
theorem cl_vs (h : AH) {d : DS} (hw : DW d) (c : CS) {s : Nat} (hd : d.sid (d.sa (s + 1)) = s + 1) (v : Nat) : wI (cl h d c) 17 (d.sa (s + 1)) (nI v) = cl h d (c.svs (u1 c.vs s v)) := by
  have e : u2 (clI h d c) 17 (d.sa (s + 1)) (nI v) = clI h d (c.svs (u1 c.vs s v)) := by
    funext f x
    by_cases h1 : f = 17
    · subst h1
      show (if x = d.sa (s + 1) then (nI v) else (if d.sid x ≠ 0 then nI (c.vs (d.sid x - 1)) else h.1.1 17 x)) = (if d.sid x ≠ 0 then nI ((u1 c.vs s v) (d.sid x - 1)) else h.1.1 17 x)
      by_cases h2 : x = d.sa (s + 1)
      · rw [if_pos h2, h2, hd, if_pos (Nat.succ_ne_zero s), Nat.add_sub_cancel, u1_s]
      · rw [if_neg h2]
        by_cases h3 : d.sid x ≠ 0
        · have : d.sid x - 1 ≠ s := fun e => h2 (by rw [← hw.2.2.2 x h3, show d.sid x = s + 1 from by omega])
          rw [if_pos h3, if_pos h3, u1_o _ _ this]
        · rw [if_neg h3, if_neg h3]
    · unfold u2 clI
      simp only [h1, if_false] <;> rfl
  exact congrArg (fun q => (((q, clL h d c, clR h d c), (clA h c, h.2.1.2.1, clS h d c), h.2.2) : AH)) e
theorem cl_dp (h : AH) {d : DS} (hw : DW d) (c : CS) {s : Nat} (hd : d.sid (d.sa (s + 1)) = s + 1) (v : Nat) : wI (cl h d c) 20 (d.sa (s + 1)) (nI v) = cl h d (c.sdp (u1 c.dp s v)) := by
  have e : u2 (clI h d c) 20 (d.sa (s + 1)) (nI v) = clI h d (c.sdp (u1 c.dp s v)) := by
    funext f x
    by_cases h1 : f = 20
    · subst h1
      show (if x = d.sa (s + 1) then (nI v) else (if d.sid x ≠ 0 then nI (c.dp (d.sid x - 1)) else h.1.1 20 x)) = (if d.sid x ≠ 0 then nI ((u1 c.dp s v) (d.sid x - 1)) else h.1.1 20 x)
      by_cases h2 : x = d.sa (s + 1)
      · rw [if_pos h2, h2, hd, if_pos (Nat.succ_ne_zero s), Nat.add_sub_cancel, u1_s]
      · rw [if_neg h2]
        by_cases h3 : d.sid x ≠ 0
        · have : d.sid x - 1 ≠ s := fun e => h2 (by rw [← hw.2.2.2 x h3, show d.sid x = s + 1 from by omega])
          rw [if_pos h3, if_pos h3, u1_o _ _ this]
        · rw [if_neg h3, if_neg h3]
    · unfold u2 clI
      simp only [h1, if_false] <;> rfl
  exact congrArg (fun q => (((q, clL h d c, clR h d c), (clA h c, h.2.1.2.1, clS h d c), h.2.2) : AH)) e
theorem cl_lg (h : AH) {d : DS} (hw : DW d) (c : CS) {s : Nat} (hd : d.sid (d.sa (s + 1)) = s + 1) (v : Nat) : wI (cl h d c) 21 (d.sa (s + 1)) (nI v) = cl h d (c.slg (u1 c.lg s v)) := by
  have e : u2 (clI h d c) 21 (d.sa (s + 1)) (nI v) = clI h d (c.slg (u1 c.lg s v)) := by
    funext f x
    by_cases h1 : f = 21
    · subst h1
      show (if x = d.sa (s + 1) then (nI v) else (if d.sid x ≠ 0 then nI (c.lg (d.sid x - 1)) else h.1.1 21 x)) = (if d.sid x ≠ 0 then nI ((u1 c.lg s v) (d.sid x - 1)) else h.1.1 21 x)
      by_cases h2 : x = d.sa (s + 1)
      · rw [if_pos h2, h2, hd, if_pos (Nat.succ_ne_zero s), Nat.add_sub_cancel, u1_s]
      · rw [if_neg h2]
        by_cases h3 : d.sid x ≠ 0
        · have : d.sid x - 1 ≠ s := fun e => h2 (by rw [← hw.2.2.2 x h3, show d.sid x = s + 1 from by omega])
          rw [if_pos h3, if_pos h3, u1_o _ _ this]
        · rw [if_neg h3, if_neg h3]
    · unfold u2 clI
      simp only [h1, if_false] <;> rfl
  exact congrArg (fun q => (((q, clL h d c, clR h d c), (clA h c, h.2.1.2.1, clS h d c), h.2.2) : AH)) e
theorem cl_hy (h : AH) {d : DS} (hw : DW d) (c : CS) {s : Nat} (hd : d.sid (d.sa (s + 1)) = s + 1) (v : Nat) : wI (cl h d c) 22 (d.sa (s + 1)) (nI v) = cl h d (c.shy (u1 c.hy s v)) := by
  have e : u2 (clI h d c) 22 (d.sa (s + 1)) (nI v) = clI h d (c.shy (u1 c.hy s v)) := by
    funext f x
    by_cases h1 : f = 22
    · subst h1
      show (if x = d.sa (s + 1) then (nI v) else (if d.sid x ≠ 0 then nI (c.hy (d.sid x - 1)) else h.1.1 22 x)) = (if d.sid x ≠ 0 then nI ((u1 c.hy s v) (d.sid x - 1)) else h.1.1 22 x)
      by_cases h2 : x = d.sa (s + 1)
      · rw [if_pos h2, h2, hd, if_pos (Nat.succ_ne_zero s), Nat.add_sub_cancel, u1_s]
      · rw [if_neg h2]
        by_cases h3 : d.sid x ≠ 0
        · have : d.sid x - 1 ≠ s := fun e => h2 (by rw [← hw.2.2.2 x h3, show d.sid x = s + 1 from by omega])
          rw [if_pos h3, if_pos h3, u1_o _ _ this]
        · rw [if_neg h3, if_neg h3]
    · unfold u2 clI
      simp only [h1, if_false] <;> rfl
  exact congrArg (fun q => (((q, clL h d c, clR h d c), (clA h c, h.2.1.2.1, clS h d c), h.2.2) : AH)) e
theorem cl_ck (h : AH) {d : DS} (hw : DW d) (c : CS) {a : Nat} (hd : d.nid (d.ph a) = a) (a0 : a ≠ 0) (v : Int64) : wL (cl h d c) 24 (d.ph a) v = cl h d (c.sck (u1 c.ck a v)) := by
  have e : u2 (clL h d c) 24 (d.ph a) v = clL h d (c.sck (u1 c.ck a v)) := by
    funext f x
    by_cases h1 : f = 24
    · subst h1
      show (if x = d.ph a then v else (if d.nid x ≠ 0 then c.ck (d.nid x) else h.1.2.1 24 x)) = (if d.nid x ≠ 0 then (u1 c.ck a v) (d.nid x) else h.1.2.1 24 x)
      by_cases h2 : x = d.ph a
      · rw [if_pos h2, h2, hd, if_pos a0, u1_s]
      · rw [if_neg h2]
        by_cases h3 : d.nid x ≠ 0
        · have : d.nid x ≠ a := fun e => h2 (by rw [← hw.2.1 x h3, e])
          rw [if_pos h3, if_pos h3, u1_o _ _ this]
        · rw [if_neg h3, if_neg h3]
    · unfold u2 clL
      simp only [h1, if_false] <;> rfl
  exact congrArg (fun q => (((clI h d c, q, clR h d c), (clA h c, h.2.1.2.1, clS h d c), h.2.2) : AH)) e
theorem cl_P1 (h : AH) {d : DS} (hw : DW d) (c : CS) {a : Nat} (hd : d.nid (d.ph a) = a) (a0 : a ≠ 0) (v : Nat) : wR (cl h d c) 26 (d.ph a) (d.ph v) = cl h d (c.sP (u1 c.P.1 a v, c.P.2)) := by
  have e : u2 (clR h d c) 26 (d.ph a) (d.ph v) = clR h d (c.sP (u1 c.P.1 a v, c.P.2)) := by
    funext f x
    by_cases h1 : f = 26
    · subst h1
      show (if x = d.ph a then (d.ph v) else (if d.nid x ≠ 0 then d.ph (c.P.1 (d.nid x)) else h.1.2.2 26 x)) = (if d.nid x ≠ 0 then d.ph ((u1 c.P.1 a v) (d.nid x)) else h.1.2.2 26 x)
      by_cases h2 : x = d.ph a
      · rw [if_pos h2, h2, hd, if_pos a0, u1_s]
      · rw [if_neg h2]
        by_cases h3 : d.nid x ≠ 0
        · have : d.nid x ≠ a := fun e => h2 (by rw [← hw.2.1 x h3, e])
          rw [if_pos h3, if_pos h3, u1_o _ _ this]
        · rw [if_neg h3, if_neg h3]
    · unfold u2 clR
      simp only [h1, if_false] <;> rfl
  exact congrArg (fun q => (((clI h d c, clL h d c, q), (clA h c, h.2.1.2.1, clS h d c), h.2.2) : AH)) e
theorem cl_P2 (h : AH) {d : DS} (hw : DW d) (c : CS) {a : Nat} (hd : d.nid (d.ph a) = a) (a0 : a ≠ 0) (v : Nat) : wR (cl h d c) 27 (d.ph a) (d.ph v) = cl h d (c.sP (c.P.1, u1 c.P.2.1 a v, c.P.2.2)) := by
  have e : u2 (clR h d c) 27 (d.ph a) (d.ph v) = clR h d (c.sP (c.P.1, u1 c.P.2.1 a v, c.P.2.2)) := by
    funext f x
    by_cases h1 : f = 27
    · subst h1
      show (if x = d.ph a then (d.ph v) else (if d.nid x ≠ 0 then d.ph (c.P.2.1 (d.nid x)) else h.1.2.2 27 x)) = (if d.nid x ≠ 0 then d.ph ((u1 c.P.2.1 a v) (d.nid x)) else h.1.2.2 27 x)
      by_cases h2 : x = d.ph a
      · rw [if_pos h2, h2, hd, if_pos a0, u1_s]
      · rw [if_neg h2]
        by_cases h3 : d.nid x ≠ 0
        · have : d.nid x ≠ a := fun e => h2 (by rw [← hw.2.1 x h3, e])
          rw [if_pos h3, if_pos h3, u1_o _ _ this]
        · rw [if_neg h3, if_neg h3]
    · unfold u2 clR
      simp only [h1, if_false] <;> rfl
  exact congrArg (fun q => (((clI h d c, clL h d c, q), (clA h c, h.2.1.2.1, clS h d c), h.2.2) : AH)) e
theorem cl_P3 (h : AH) {d : DS} (hw : DW d) (c : CS) {a : Nat} (hd : d.nid (d.ph a) = a) (a0 : a ≠ 0) (v : Nat) : wR (cl h d c) 28 (d.ph a) (d.ph v) = cl h d (c.sP (c.P.1, c.P.2.1, u1 c.P.2.2 a v)) := by
  have e : u2 (clR h d c) 28 (d.ph a) (d.ph v) = clR h d (c.sP (c.P.1, c.P.2.1, u1 c.P.2.2 a v)) := by
    funext f x
    by_cases h1 : f = 28
    · subst h1
      show (if x = d.ph a then (d.ph v) else (if d.nid x ≠ 0 then d.ph (c.P.2.2 (d.nid x)) else h.1.2.2 28 x)) = (if d.nid x ≠ 0 then d.ph ((u1 c.P.2.2 a v) (d.nid x)) else h.1.2.2 28 x)
      by_cases h2 : x = d.ph a
      · rw [if_pos h2, h2, hd, if_pos a0, u1_s]
      · rw [if_neg h2]
        by_cases h3 : d.nid x ≠ 0
        · have : d.nid x ≠ a := fun e => h2 (by rw [← hw.2.1 x h3, e])
          rw [if_pos h3, if_pos h3, u1_o _ _ this]
        · rw [if_neg h3, if_neg h3]
    · unfold u2 clR
      simp only [h1, if_false] <;> rfl
  exact congrArg (fun q => (((clI h d c, clL h d c, q), (clA h c, h.2.1.2.1, clS h d c), h.2.2) : AH)) e
theorem cl_f1 (h : AH) {d : DS} (hw : DW d) (c : CS) {a : Nat} (hd : d.nid (d.ph a) = a) (a0 : a ≠ 0) (v : Nat) : wR (cl h d c) 31 (d.ph a) (d.vh v) = cl h d (c.sf1 (u1 c.f1 a v)) := by
  have e : u2 (clR h d c) 31 (d.ph a) (d.vh v) = clR h d (c.sf1 (u1 c.f1 a v)) := by
    funext f x
    by_cases h1 : f = 31
    · subst h1
      show (if x = d.ph a then (d.vh v) else (if d.nid x ≠ 0 then d.vh (c.f1 (d.nid x)) else h.1.2.2 31 x)) = (if d.nid x ≠ 0 then d.vh ((u1 c.f1 a v) (d.nid x)) else h.1.2.2 31 x)
      by_cases h2 : x = d.ph a
      · rw [if_pos h2, h2, hd, if_pos a0, u1_s]
      · rw [if_neg h2]
        by_cases h3 : d.nid x ≠ 0
        · have : d.nid x ≠ a := fun e => h2 (by rw [← hw.2.1 x h3, e])
          rw [if_pos h3, if_pos h3, u1_o _ _ this]
        · rw [if_neg h3, if_neg h3]
    · unfold u2 clR
      simp only [h1, if_false] <;> rfl
  exact congrArg (fun q => (((clI h d c, clL h d c, q), (clA h c, h.2.1.2.1, clS h d c), h.2.2) : AH)) e
theorem cl_l1 (h : AH) {d : DS} (hw : DW d) (c : CS) {a : Nat} (hd : d.nid (d.ph a) = a) (a0 : a ≠ 0) (v : Nat) : wR (cl h d c) 32 (d.ph a) (d.vh v) = cl h d (c.sl1 (u1 c.l1 a v)) := by
  have e : u2 (clR h d c) 32 (d.ph a) (d.vh v) = clR h d (c.sl1 (u1 c.l1 a v)) := by
    funext f x
    by_cases h1 : f = 32
    · subst h1
      show (if x = d.ph a then (d.vh v) else (if d.nid x ≠ 0 then d.vh (c.l1 (d.nid x)) else h.1.2.2 32 x)) = (if d.nid x ≠ 0 then d.vh ((u1 c.l1 a v) (d.nid x)) else h.1.2.2 32 x)
      by_cases h2 : x = d.ph a
      · rw [if_pos h2, h2, hd, if_pos a0, u1_s]
      · rw [if_neg h2]
        by_cases h3 : d.nid x ≠ 0
        · have : d.nid x ≠ a := fun e => h2 (by rw [← hw.2.1 x h3, e])
          rw [if_pos h3, if_pos h3, u1_o _ _ this]
        · rw [if_neg h3, if_neg h3]
    · unfold u2 clR
      simp only [h1, if_false] <;> rfl
  exact congrArg (fun q => (((clI h d c, clL h d c, q), (clA h c, h.2.1.2.1, clS h d c), h.2.2) : AH)) e
theorem cl_vx (h : AH) {d : DS} (hw : DW d) (c : CS) {a : Nat} (hd : d.iid (d.vh a) = a) (a0 : a ≠ 0) (v : Nat) : wR (cl h d c) 34 (d.vh a) (d.vh v) = cl h d (c.svx (u1 c.vx a v)) := by
  have e : u2 (clR h d c) 34 (d.vh a) (d.vh v) = clR h d (c.svx (u1 c.vx a v)) := by
    funext f x
    by_cases h1 : f = 34
    · subst h1
      show (if x = d.vh a then (d.vh v) else (if d.iid x ≠ 0 then d.vh (c.vx (d.iid x)) else h.1.2.2 34 x)) = (if d.iid x ≠ 0 then d.vh ((u1 c.vx a v) (d.iid x)) else h.1.2.2 34 x)
      by_cases h2 : x = d.vh a
      · rw [if_pos h2, h2, hd, if_pos a0, u1_s]
      · rw [if_neg h2]
        by_cases h3 : d.iid x ≠ 0
        · have : d.iid x ≠ a := fun e => h2 (by rw [← hw.2.2.1 x h3, e])
          rw [if_pos h3, if_pos h3, u1_o _ _ this]
        · rw [if_neg h3, if_neg h3]
    · unfold u2 clR
      simp only [h1, if_false] <;> rfl
  exact congrArg (fun q => (((clI h d c, clL h d c, q), (clA h c, h.2.1.2.1, clS h d c), h.2.2) : AH)) e
theorem cl_ro (h : AH) {d : DS} (hw : DW d) (c : CS) {s : Nat} (hd : d.sid (d.sa (s + 1)) = s + 1) (v : Nat) : wR (cl h d c) 13 (d.sa (s + 1)) (d.ph v) = cl h d (c.sro (u1 c.ro s v)) := by
  have e : u2 (clR h d c) 13 (d.sa (s + 1)) (d.ph v) = clR h d (c.sro (u1 c.ro s v)) := by
    funext f x
    by_cases h1 : f = 13
    · subst h1
      show (if x = d.sa (s + 1) then (d.ph v) else (if d.sid x ≠ 0 then d.ph (c.ro (d.sid x - 1)) else h.1.2.2 13 x)) = (if d.sid x ≠ 0 then d.ph ((u1 c.ro s v) (d.sid x - 1)) else h.1.2.2 13 x)
      by_cases h2 : x = d.sa (s + 1)
      · rw [if_pos h2, h2, hd, if_pos (Nat.succ_ne_zero s), Nat.add_sub_cancel, u1_s]
      · rw [if_neg h2]
        by_cases h3 : d.sid x ≠ 0
        · have : d.sid x - 1 ≠ s := fun e => h2 (by rw [← hw.2.2.2 x h3, show d.sid x = s + 1 from by omega])
          rw [if_pos h3, if_pos h3, u1_o _ _ this]
        · rw [if_neg h3, if_neg h3]
    · unfold u2 clR
      simp only [h1, if_false] <;> rfl
  exact congrArg (fun q => (((clI h d c, clL h d c, q), (clA h c, h.2.1.2.1, clS h d c), h.2.2) : AH)) e
theorem cl_la (h : AH) {d : DS} (hw : DW d) (c : CS) {s : Nat} (hd : d.sid (d.sa (s + 1)) = s + 1) (v : Nat) : wR (cl h d c) 18 (d.sa (s + 1)) (d.ph v) = cl h d (c.sla (u1 c.la s v)) := by
  have e : u2 (clR h d c) 18 (d.sa (s + 1)) (d.ph v) = clR h d (c.sla (u1 c.la s v)) := by
    funext f x
    by_cases h1 : f = 18
    · subst h1
      show (if x = d.sa (s + 1) then (d.ph v) else (if d.sid x ≠ 0 then d.ph (c.la (d.sid x - 1)) else h.1.2.2 18 x)) = (if d.sid x ≠ 0 then d.ph ((u1 c.la s v) (d.sid x - 1)) else h.1.2.2 18 x)
      by_cases h2 : x = d.sa (s + 1)
      · rw [if_pos h2, h2, hd, if_pos (Nat.succ_ne_zero s), Nat.add_sub_cancel, u1_s]
      · rw [if_neg h2]
        by_cases h3 : d.sid x ≠ 0
        · have : d.sid x - 1 ≠ s := fun e => h2 (by rw [← hw.2.2.2 x h3, show d.sid x = s + 1 from by omega])
          rw [if_pos h3, if_pos h3, u1_o _ _ this]
        · rw [if_neg h3, if_neg h3]
    · unfold u2 clR
      simp only [h1, if_false] <;> rfl
  exact congrArg (fun q => (((clI h d c, clL h d c, q), (clA h c, h.2.1.2.1, clS h d c), h.2.2) : AH)) e
theorem cl_tl (h : AH) {d : DS} (hw : DW d) (c : CS) {s : Nat} (hd : d.sid (d.sa (s + 1)) = s + 1) (v : Nat) : wR (cl h d c) 19 (d.sa (s + 1)) v = cl h d (c.stl (u1 c.tl s v)) := by
  have e : u2 (clR h d c) 19 (d.sa (s + 1)) v = clR h d (c.stl (u1 c.tl s v)) := by
    funext f x
    by_cases h1 : f = 19
    · subst h1
      show (if x = d.sa (s + 1) then v else (if d.sid x ≠ 0 then c.tl (d.sid x - 1) else h.1.2.2 19 x)) = (if d.sid x ≠ 0 then (u1 c.tl s v) (d.sid x - 1) else h.1.2.2 19 x)
      by_cases h2 : x = d.sa (s + 1)
      · rw [if_pos h2, h2, hd, if_pos (Nat.succ_ne_zero s), Nat.add_sub_cancel, u1_s]
      · rw [if_neg h2]
        by_cases h3 : d.sid x ≠ 0
        · have : d.sid x - 1 ≠ s := fun e => h2 (by rw [← hw.2.2.2 x h3, show d.sid x = s + 1 from by omega])
          rw [if_pos h3, if_pos h3, u1_o _ _ this]
        · rw [if_neg h3, if_neg h3]
    · unfold u2 clR
      simp only [h1, if_false] <;> rfl
  exact congrArg (fun q => (((clI h d c, clL h d c, q), (clA h c, h.2.1.2.1, clS h d c), h.2.2) : AH)) e
theorem cl_pa (h : AH) {d : DS} (hw : DW d) (c : CS) {s : Nat} (hd : d.sid (d.sa (s + 1)) = s + 1) (v : Nat) : wR (cl h d c) 23 (d.sa (s + 1)) v = cl h d (c.spa (u1 c.pa s v)) := by
  have e : u2 (clR h d c) 23 (d.sa (s + 1)) v = clR h d (c.spa (u1 c.pa s v)) := by
    funext f x
    by_cases h1 : f = 23
    · subst h1
      show (if x = d.sa (s + 1) then v else (if d.sid x ≠ 0 then c.pa (d.sid x - 1) else h.1.2.2 23 x)) = (if d.sid x ≠ 0 then (u1 c.pa s v) (d.sid x - 1) else h.1.2.2 23 x)
      by_cases h2 : x = d.sa (s + 1)
      · rw [if_pos h2, h2, hd, if_pos (Nat.succ_ne_zero s), Nat.add_sub_cancel, u1_s]
      · rw [if_neg h2]
        by_cases h3 : d.sid x ≠ 0
        · have : d.sid x - 1 ≠ s := fun e => h2 (by rw [← hw.2.2.2 x h3, show d.sid x = s + 1 from by omega])
          rw [if_pos h3, if_pos h3, u1_o _ _ this]
        · rw [if_neg h3, if_neg h3]
    · unfold u2 clR
      simp only [h1, if_false] <;> rfl
  exact congrArg (fun q => (((clI h d c, clL h d c, q), (clA h c, h.2.1.2.1, clS h d c), h.2.2) : AH)) e
theorem cl_P10 (h : AH) {d : DS} (hw : DW d) (c : CS) {a : Nat} (hd : d.nid (d.ph a) = a) (a0 : a ≠ 0) : wR (cl h d c) 26 (d.ph a) 0 = cl h d (c.sP (u1 c.P.1 a 0, c.P.2)) := by
  have := cl_P1 h hw c hd a0 0
  rw [hw.1.1] at this
  exact this
theorem cl_P20 (h : AH) {d : DS} (hw : DW d) (c : CS) {a : Nat} (hd : d.nid (d.ph a) = a) (a0 : a ≠ 0) : wR (cl h d c) 27 (d.ph a) 0 = cl h d (c.sP (c.P.1, u1 c.P.2.1 a 0, c.P.2.2)) := by
  have := cl_P2 h hw c hd a0 0
  rw [hw.1.1] at this
  exact this
theorem cl_P30 (h : AH) {d : DS} (hw : DW d) (c : CS) {a : Nat} (hd : d.nid (d.ph a) = a) (a0 : a ≠ 0) : wR (cl h d c) 28 (d.ph a) 0 = cl h d (c.sP (c.P.1, c.P.2.1, u1 c.P.2.2 a 0)) := by
  have := cl_P3 h hw c hd a0 0
  rw [hw.1.1] at this
  exact this
theorem cl_f10 (h : AH) {d : DS} (hw : DW d) (c : CS) {a : Nat} (hd : d.nid (d.ph a) = a) (a0 : a ≠ 0) : wR (cl h d c) 31 (d.ph a) 0 = cl h d (c.sf1 (u1 c.f1 a 0)) := by
  have := cl_f1 h hw c hd a0 0
  rw [hw.1.2.1] at this
  exact this
theorem cl_l10 (h : AH) {d : DS} (hw : DW d) (c : CS) {a : Nat} (hd : d.nid (d.ph a) = a) (a0 : a ≠ 0) : wR (cl h d c) 32 (d.ph a) 0 = cl h d (c.sl1 (u1 c.l1 a 0)) := by
  have := cl_l1 h hw c hd a0 0
  rw [hw.1.2.1] at this
  exact this
theorem cl_vx0 (h : AH) {d : DS} (hw : DW d) (c : CS) {a : Nat} (hd : d.iid (d.vh a) = a) (a0 : a ≠ 0) : wR (cl h d c) 34 (d.vh a) 0 = cl h d (c.svx (u1 c.vx a 0)) := by
  have := cl_vx h hw c hd a0 0
  rw [hw.1.2.1] at this
  exact this
theorem cl_ro0 (h : AH) {d : DS} (hw : DW d) (c : CS) {s : Nat} (hd : d.sid (d.sa (s + 1)) = s + 1) : wR (cl h d c) 13 (d.sa (s + 1)) 0 = cl h d (c.sro (u1 c.ro s 0)) := by
  have := cl_ro h hw c hd 0
  rw [hw.1.1] at this
  exact this
theorem cl_la0 (h : AH) {d : DS} (hw : DW d) (c : CS) {s : Nat} (hd : d.sid (d.sa (s + 1)) = s + 1) : wR (cl h d c) 18 (d.sa (s + 1)) 0 = cl h d (c.sla (u1 c.la s 0)) := by
  have := cl_la h hw c hd 0
  rw [hw.1.1] at this
  exact this
theorem cl_K (h : AH) (d : DS) (c : CS) (v : Nat) : wI (cl h d c) 2 1 (nI v) = cl h d (c.sK v) := by
  have e : u2 (clI h d c) 2 1 (nI v) = clI h d (c.sK v) := by
    funext f x
    by_cases h1 : f = 2
    · subst h1
      by_cases h2 : x = 1
      · subst h2; rfl
      · show (if x = 1 then _ else (if x = 1 then _ else _)) = (if x = 1 then _ else _)
        rw [if_neg h2, if_neg h2, if_neg h2]
    · unfold u2 clI
      simp only [h1, if_false] <;> rfl
  exact congrArg (fun q => (((q, clL h d c, clR h d c), (clA h c, h.2.1.2.1, clS h d c), h.2.2) : AH)) e
theorem cl_E (h : AH) (d : DS) (c : CS) (v : Nat) : wI (cl h d c) 3 1 (nI v) = cl h d (c.sE v) := by
  have e : u2 (clI h d c) 3 1 (nI v) = clI h d (c.sE v) := by
    funext f x
    by_cases h1 : f = 3
    · subst h1
      by_cases h2 : x = 1
      · subst h2; rfl
      · show (if x = 1 then _ else (if x = 1 then _ else _)) = (if x = 1 then _ else _)
        rw [if_neg h2, if_neg h2, if_neg h2]
    · unfold u2 clI
      simp only [h1, if_false] <;> rfl
  exact congrArg (fun q => (((q, clL h d c, clR h d c), (clA h c, h.2.1.2.1, clS h d c), h.2.2) : AH)) e
theorem cl_cn (h : AH) (d : DS) (c : CS) (v : Nat) : wI (cl h d c) 4 1 (nI v) = cl h d (c.scn v) := by
  have e : u2 (clI h d c) 4 1 (nI v) = clI h d (c.scn v) := by
    funext f x
    by_cases h1 : f = 4
    · subst h1
      by_cases h2 : x = 1
      · subst h2; rfl
      · show (if x = 1 then _ else (if x = 1 then _ else _)) = (if x = 1 then _ else _)
        rw [if_neg h2, if_neg h2, if_neg h2]
    · unfold u2 clI
      simp only [h1, if_false] <;> rfl
  exact congrArg (fun q => (((q, clL h d c, clR h d c), (clA h c, h.2.1.2.1, clS h d c), h.2.2) : AH)) e
theorem cl_fv (h : AH) (d : DS) (c : CS) (v : Int32) : wI (cl h d c) 6 1 v = cl h d (c.sfv v) := by
  have e : u2 (clI h d c) 6 1 v = clI h d (c.sfv v) := by
    funext f x
    by_cases h1 : f = 6
    · subst h1
      by_cases h2 : x = 1
      · subst h2; rfl
      · show (if x = 1 then _ else (if x = 1 then _ else _)) = (if x = 1 then _ else _)
        rw [if_neg h2, if_neg h2, if_neg h2]
    · unfold u2 clI
      simp only [h1, if_false] <;> rfl
  exact congrArg (fun q => (((q, clL h d c, clR h d c), (clA h c, h.2.1.2.1, clS h d c), h.2.2) : AH)) e
theorem cl_N (h : AH) (d : DS) (c : CS) (v : Nat) : wI (cl h d c) 11 3 (nI v) = cl h d (c.sN v) := by
  have e : u2 (clI h d c) 11 3 (nI v) = clI h d (c.sN v) := by
    funext f x
    by_cases h1 : f = 11
    · subst h1
      by_cases h2 : x = 3
      · subst h2; rfl
      · show (if x = 3 then _ else (if x = 3 then _ else _)) = (if x = 3 then _ else _)
        rw [if_neg h2, if_neg h2, if_neg h2]
    · unfold u2 clI
      simp only [h1, if_false] <;> rfl
  exact congrArg (fun q => (((q, clL h d c, clR h d c), (clA h c, h.2.1.2.1, clS h d c), h.2.2) : AH)) e
theorem cl_fk (h : AH) (d : DS) (c : CS) (v : Int64) : wL (cl h d c) 5 1 v = cl h d (c.sfk v) := by
  have e : u2 (clL h d c) 5 1 v = clL h d (c.sfk v) := by
    funext f x
    by_cases h1 : f = 5
    · subst h1
      by_cases h2 : x = 1
      · subst h2; rfl
      · show (if x = 1 then _ else (if x = 1 then _ else _)) = (if x = 1 then _ else _)
        rw [if_neg h2, if_neg h2, if_neg h2]
    · unfold u2 clL
      simp only [h1, if_false] <;> rfl
  exact congrArg (fun q => (((clI h d c, q, clR h d c), (clA h c, h.2.1.2.1, clS h d c), h.2.2) : AH)) e
theorem cl_rO (h : AH) (d : DS) (c : CS) (k : Nat) (v : Int32) : sI (cl h d c) 4 k v = cl h d (c.srO (u1 c.rO k v)) := by
  have e : u2 (clA h c) 4 k v = clA h (c.srO (u1 c.rO k v)) := by
    funext a i
    by_cases h1 : a = 4
    · subst h1
      show (if i = k then v else c.rO i) = u1 c.rO k v i
      unfold u1
      rfl
    · unfold u2 clA
      simp only [h1, if_false] <;> rfl
  exact congrArg (fun q => (((clI h d c, clL h d c, clR h d c), (q, h.2.1.2.1, clS h d c), h.2.2) : AH)) e
theorem cl_rP (h : AH) (d : DS) (c : CS) (k : Nat) (v : Int32) : sI (cl h d c) 5 k v = cl h d (c.srP (u1 c.rP k v)) := by
  have e : u2 (clA h c) 5 k v = clA h (c.srP (u1 c.rP k v)) := by
    funext a i
    by_cases h1 : a = 5
    · subst h1
      show (if i = k then v else c.rP i) = u1 c.rP k v i
      unfold u1
      rfl
    · unfold u2 clA
      simp only [h1, if_false] <;> rfl
  exact congrArg (fun q => (((clI h d c, clL h d c, clR h d c), (q, h.2.1.2.1, clS h d c), h.2.2) : AH)) e
theorem cl_rT (h : AH) (d : DS) (c : CS) (k : Nat) (v : Int32) : sI (cl h d c) 6 k v = cl h d (c.srT (u1 c.rT k v)) := by
  have e : u2 (clA h c) 6 k v = clA h (c.srT (u1 c.rT k v)) := by
    funext a i
    by_cases h1 : a = 6
    · subst h1
      show (if i = k then v else c.rT i) = u1 c.rT k v i
      unfold u1
      rfl
    · unfold u2 clA
      simp only [h1, if_false] <;> rfl
  exact congrArg (fun q => (((clI h d c, clL h d c, clR h d c), (q, h.2.1.2.1, clS h d c), h.2.2) : AH)) e
theorem cl_rQ (h : AH) (d : DS) (c : CS) (k : Nat) (v : Int32) : sI (cl h d c) 7 k v = cl h d (c.srQ (u1 c.rQ k v)) := by
  have e : u2 (clA h c) 7 k v = clA h (c.srQ (u1 c.rQ k v)) := by
    funext a i
    by_cases h1 : a = 7
    · subst h1
      show (if i = k then v else c.rQ i) = u1 c.rQ k v i
      unfold u1
      rfl
    · unfold u2 clA
      simp only [h1, if_false] <;> rfl
  exact congrArg (fun q => (((clI h d c, clL h d c, clR h d c), (q, h.2.1.2.1, clS h d c), h.2.2) : AH)) e
theorem cl_ar (h : AH) (d : DS) (c : CS) (k v : Nat) : sR (cl h d c) 2 k (d.sa v) = cl h d (c.sar (u1 c.ar k v)) := by
  have e : u2 (clS h d c) 2 k (d.sa v) = clS h d (c.sar (u1 c.ar k v)) := by
    funext a i
    by_cases h1 : a = 2
    · subst h1
      show (if i = k then d.sa v else d.sa (c.ar i)) = d.sa (u1 c.ar k v i)
      unfold u1
      by_cases h2 : i = k
      · rw [if_pos h2, if_pos h2]
      · rw [if_neg h2, if_neg h2]
    · unfold u2 clS
      simp only [h1, if_false] <;> rfl
  exact congrArg (fun q => (((clI h d c, clL h d c, clR h d c), (clA h c, h.2.1.2.1, q), h.2.2) : AH)) e
