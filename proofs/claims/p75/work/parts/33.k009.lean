/-! ===== contracts and their cuts, by program ===== -/
/-- common0+ -/
noncomputable def zn194 : zCn := (((zjl_322, []), [(1, 0, 1), (1, 0, 0)], []), [((zjl_322, []), [(1, 0, 1)], [])])
noncomputable def zc194 : List zCt := []
noncomputable def zu194 : List (Nat × zCn) := []
set_option maxRecDepth 100000 in
theorem zk194 : z_conB zSPd zD (z_callC 14 zu194 (z_runC zSPd 14 zu194 zD zDF zTC 20000 0)) zDF zTC 20000 17179869184 2 2 0 0 4 zT191 zn194 none zc194 = true := by decide +kernel
/-- common0- -/
noncomputable def zn195 : zCn := (((zjl_322, []), [(1, 0, (-1)), (1, 0, 0)], []), [((zjl_322, []), [(1, 0, 1)], [])])
noncomputable def zc195 : List zCt := []
noncomputable def zu195 : List (Nat × zCn) := []
set_option maxRecDepth 100000 in
theorem zk195 : z_conB zSPd zD (z_callC 14 zu195 (z_runC zSPd 14 zu195 zD zDF zTC 20000 0)) zDF zTC 20000 17179869184 2 2 0 0 4 zT191 zn195 none zc195 = true := by decide +kernel
/-- common1+ -/
noncomputable def zn196 : zCn := ((([(0, 0), zi_0, zi_0, zi_0, zi_0, zi_0, zi_0, zi_0, zi_0, zi_0, zi_0, zi_0, zi_0, zi_0, (1, 3), zi_449], [(0, 15, 14, 0, (-1)), (6, 15, 14, 0, 1)]), [(1, 14, 0), (1, 15, 0)], []), [(([(0, 0), zi_0, zi_0, zi_0, zi_0, zi_0, zi_0, zi_0, zi_0, zi_0, zi_0, zi_0, zi_0, zi_0, (1, 3), zi_449, (1, 3)], []), [(1, 16, 0)], [])])
noncomputable def zc196 : List zCt := []
noncomputable def zu196 : List (Nat × zCn) := [(191, zn194), (191, zn195)]
set_option maxRecDepth 100000 in
theorem zk196 : z_conB zSPd zD (z_callC 14 zu196 (z_runC zSPd 14 zu196 zD zDF zTC 20000 0)) zDF zTC 20000 17179869184 2 2 0 0 4 zT191 zn196 none zc196 = true := by decide +kernel
/-- common1- -/
noncomputable def zn197 : zCn := ((([(0, 0), zi_0, zi_0, zi_0, zi_0, zi_0, zi_0, zi_0, zi_0, zi_0, zi_0, zi_0, zi_0, zi_0, zi_450, zi_449], [(0, 14, 15, 0, (-1)), (5, 15, 14, 0, (-1))]), [(1, 14, 0), (1, 15, 0)], []), [(([(0, 0), zi_0, zi_0, zi_0, zi_0, zi_0, zi_0, zi_0, zi_0, zi_0, zi_0, zi_0, zi_0, zi_0, zi_450, zi_449, (1, 3)], []), [(1, 16, 0)], [])])
noncomputable def zc197 : List zCt := []
noncomputable def zu197 : List (Nat × zCn) := [(191, zn194), (191, zn195)]
set_option maxRecDepth 100000 in
theorem zk197 : z_conB zSPd zD (z_callC 14 zu197 (z_runC zSPd 14 zu197 zD zDF zTC 20000 0)) zDF zTC 20000 17179869184 2 2 0 0 4 zT191 zn197 none zc197 = true := by decide +kernel
/-- common2+ -/
noncomputable def zn198 : zCn := ((([(0, 0), zi_0, zi_0, zi_0, zi_0, zi_0, zi_0, zi_0, zi_0, zi_0, zi_0, zi_0, zi_0, zi_0, (1, 4), zi_451], [(0, 15, 14, 0, (-1)), (6, 15, 14, 0, 1)]), [(1, 14, 0), (1, 15, 0)], []), [(([(0, 0), zi_0, zi_0, zi_0, zi_0, zi_0, zi_0, zi_0, zi_0, zi_0, zi_0, zi_0, zi_0, zi_0, (1, 4), zi_451, (1, 4)], []), [(1, 16, 0)], [])])
noncomputable def zc198 : List zCt := []
noncomputable def zu198 : List (Nat × zCn) := [(191, zn196), (191, zn197)]
set_option maxRecDepth 100000 in
theorem zk198 : z_conB zSPd zD (z_callC 14 zu198 (z_runC zSPd 14 zu198 zD zDF zTC 20000 0)) zDF zTC 20000 17179869184 2 2 0 0 4 zT191 zn198 none zc198 = true := by decide +kernel
/-- common2- -/
noncomputable def zn199 : zCn := ((([(0, 0), zi_0, zi_0, zi_0, zi_0, zi_0, zi_0, zi_0, zi_0, zi_0, zi_0, zi_0, zi_0, zi_0, zi_452, zi_451], [(0, 14, 15, 0, (-1)), (5, 15, 14, 0, (-1))]), [(1, 14, 0), (1, 15, 0)], []), [(([(0, 0), zi_0, zi_0, zi_0, zi_0, zi_0, zi_0, zi_0, zi_0, zi_0, zi_0, zi_0, zi_0, zi_0, zi_452, zi_451, (1, 4)], []), [(1, 16, 0)], [])])
noncomputable def zc199 : List zCt := []
noncomputable def zu199 : List (Nat × zCn) := [(191, zn196), (191, zn197)]
set_option maxRecDepth 100000 in
theorem zk199 : z_conB zSPd zD (z_callC 14 zu199 (z_runC zSPd 14 zu199 zD zDF zTC 20000 0)) zDF zTC 20000 17179869184 2 2 0 0 4 zT191 zn199 none zc199 = true := by decide +kernel
/-- common3+ -/
noncomputable def zn200 : zCn := ((([(0, 0), zi_0, zi_0, zi_0, zi_0, zi_0, zi_0, zi_0, zi_0, zi_0, zi_0, zi_0, zi_0, zi_0, (1, 9), zi_453], [(0, 15, 14, 0, (-1)), (6, 15, 14, 0, 1)]), [(1, 14, 0), (1, 15, 0)], []), [(([(0, 0), zi_0, zi_0, zi_0, zi_0, zi_0, zi_0, zi_0, zi_0, zi_0, zi_0, zi_0, zi_0, zi_0, (1, 9), zi_453, (1, 9)], []), [(1, 16, 0)], [])])
noncomputable def zc200 : List zCt := []
noncomputable def zu200 : List (Nat × zCn) := [(191, zn198), (191, zn199)]
set_option maxRecDepth 100000 in
theorem zk200 : z_conB zSPd zD (z_callC 14 zu200 (z_runC zSPd 14 zu200 zD zDF zTC 20000 0)) zDF zTC 20000 17179869184 2 2 0 0 4 zT191 zn200 none zc200 = true := by decide +kernel
/-- common3- -/
noncomputable def zn201 : zCn := ((([(0, 0), zi_0, zi_0, zi_0, zi_0, zi_0, zi_0, zi_0, zi_0, zi_0, zi_0, zi_0, zi_0, zi_0, zi_454, zi_453], [(0, 14, 15, 0, (-1)), (5, 15, 14, 0, (-1))]), [(1, 14, 0), (1, 15, 0)], []), [(([(0, 0), zi_0, zi_0, zi_0, zi_0, zi_0, zi_0, zi_0, zi_0, zi_0, zi_0, zi_0, zi_0, zi_0, zi_454, zi_453, (1, 9)], []), [(1, 16, 0)], [])])
noncomputable def zc201 : List zCt := []
noncomputable def zu201 : List (Nat × zCn) := [(191, zn198), (191, zn199)]
set_option maxRecDepth 100000 in
theorem zk201 : z_conB zSPd zD (z_callC 14 zu201 (z_runC zSPd 14 zu201 zD zDF zTC 20000 0)) zDF zTC 20000 17179869184 2 2 0 0 4 zT191 zn201 none zc201 = true := by decide +kernel
/-- common4+ -/
noncomputable def zn202 : zCn := ((([(0, 0), zi_0, zi_0, zi_0, zi_0, zi_0, zi_0, zi_0, zi_0, zi_0, zi_0, zi_0, zi_0, zi_0, zi_324, zi_455], [(0, 15, 14, 0, (-1)), (6, 15, 14, 0, 1)]), [(1, 14, 0), (1, 15, 0)], []), [(([(0, 0), zi_0, zi_0, zi_0, zi_0, zi_0, zi_0, zi_0, zi_0, zi_0, zi_0, zi_0, zi_0, zi_0, zi_324, zi_455, zi_324], []), [(1, 16, 0)], [])])
noncomputable def zc202 : List zCt := []
noncomputable def zu202 : List (Nat × zCn) := [(191, zn200), (191, zn201)]
set_option maxRecDepth 100000 in
theorem zk202 : z_conB zSPd zD (z_callC 14 zu202 (z_runC zSPd 14 zu202 zD zDF zTC 20000 0)) zDF zTC 20000 17179869184 2 2 0 0 4 zT191 zn202 none zc202 = true := by decide +kernel
/-- common4- -/
noncomputable def zn203 : zCn := ((([(0, 0), zi_0, zi_0, zi_0, zi_0, zi_0, zi_0, zi_0, zi_0, zi_0, zi_0, zi_0, zi_0, zi_0, zi_456, zi_455], [(0, 14, 15, 0, (-1)), (5, 15, 14, 0, (-1))]), [(1, 14, 0), (1, 15, 0)], []), [(([(0, 0), zi_0, zi_0, zi_0, zi_0, zi_0, zi_0, zi_0, zi_0, zi_0, zi_0, zi_0, zi_0, zi_0, zi_456, zi_455, zi_324], []), [(1, 16, 0)], [])])
noncomputable def zc203 : List zCt := []
noncomputable def zu203 : List (Nat × zCn) := [(191, zn200), (191, zn201)]
set_option maxRecDepth 100000 in
theorem zk203 : z_conB zSPd zD (z_callC 14 zu203 (z_runC zSPd 14 zu203 zD zDF zTC 20000 0)) zDF zTC 20000 17179869184 2 2 0 0 4 zT191 zn203 none zc203 = true := by decide +kernel
/-- common5+ -/
noncomputable def zn204 : zCn := ((([(0, 0), zi_0, zi_0, zi_0, zi_0, zi_0, zi_0, zi_0, zi_0, zi_0, zi_0, zi_0, zi_0, zi_0, zi_457, zi_458], [(0, 15, 14, 0, (-1)), (6, 15, 14, 0, 1)]), [(1, 14, 0), (1, 15, 0)], []), [(([(0, 0), zi_0, zi_0, zi_0, zi_0, zi_0, zi_0, zi_0, zi_0, zi_0, zi_0, zi_0, zi_0, zi_0, zi_457, zi_458, zi_457], []), [(1, 16, 0)], [])])
noncomputable def zc204 : List zCt := []
noncomputable def zu204 : List (Nat × zCn) := [(191, zn202), (191, zn203)]
set_option maxRecDepth 100000 in
theorem zk204 : z_conB zSPd zD (z_callC 14 zu204 (z_runC zSPd 14 zu204 zD zDF zTC 20000 0)) zDF zTC 20000 17179869184 2 2 0 0 4 zT191 zn204 none zc204 = true := by decide +kernel
/-- common5- -/
noncomputable def zn205 : zCn := ((([(0, 0), zi_0, zi_0, zi_0, zi_0, zi_0, zi_0, zi_0, zi_0, zi_0, zi_0, zi_0, zi_0, zi_0, zi_459, zi_458], [(0, 14, 15, 0, (-1)), (5, 15, 14, 0, (-1))]), [(1, 14, 0), (1, 15, 0)], []), [(([(0, 0), zi_0, zi_0, zi_0, zi_0, zi_0, zi_0, zi_0, zi_0, zi_0, zi_0, zi_0, zi_0, zi_0, zi_459, zi_458, zi_457], []), [(1, 16, 0)], [])])
noncomputable def zc205 : List zCt := []
noncomputable def zu205 : List (Nat × zCn) := [(191, zn202), (191, zn203)]
set_option maxRecDepth 100000 in
theorem zk205 : z_conB zSPd zD (z_callC 14 zu205 (z_runC zSPd 14 zu205 zD zDF zTC 20000 0)) zDF zTC 20000 17179869184 2 2 0 0 4 zT191 zn205 none zc205 = true := by decide +kernel
/-- common6+ -/
noncomputable def zn206 : zCn := ((([(0, 0), zi_0, zi_0, zi_0, zi_0, zi_0, zi_0, zi_0, zi_0, zi_0, zi_0, zi_0, zi_0, zi_0, zi_460, zi_461], [(0, 15, 14, 0, (-1)), (6, 15, 14, 0, 1)]), [(1, 14, 0), (1, 15, 0)], []), [(([(0, 0), zi_0, zi_0, zi_0, zi_0, zi_0, zi_0, zi_0, zi_0, zi_0, zi_0, zi_0, zi_0, zi_0, zi_460, zi_461, zi_460], []), [(1, 16, 0)], [])])
noncomputable def zc206 : List zCt := []
noncomputable def zu206 : List (Nat × zCn) := [(191, zn204), (191, zn205)]
set_option maxRecDepth 100000 in
theorem zk206 : z_conB zSPd zD (z_callC 14 zu206 (z_runC zSPd 14 zu206 zD zDF zTC 20000 0)) zDF zTC 20000 17179869184 2 2 0 0 4 zT191 zn206 none zc206 = true := by decide +kernel
/-- common6- -/
noncomputable def zn207 : zCn := ((([(0, 0), zi_0, zi_0, zi_0, zi_0, zi_0, zi_0, zi_0, zi_0, zi_0, zi_0, zi_0, zi_0, zi_0, zi_462, zi_461], [(0, 14, 15, 0, (-1)), (5, 15, 14, 0, (-1))]), [(1, 14, 0), (1, 15, 0)], []), [(([(0, 0), zi_0, zi_0, zi_0, zi_0, zi_0, zi_0, zi_0, zi_0, zi_0, zi_0, zi_0, zi_0, zi_0, zi_462, zi_461, zi_460], []), [(1, 16, 0)], [])])
noncomputable def zc207 : List zCt := []
noncomputable def zu207 : List (Nat × zCn) := [(191, zn204), (191, zn205)]
set_option maxRecDepth 100000 in
theorem zk207 : z_conB zSPd zD (z_callC 14 zu207 (z_runC zSPd 14 zu207 zD zDF zTC 20000 0)) zDF zTC 20000 17179869184 2 2 0 0 4 zT191 zn207 none zc207 = true := by decide +kernel
/-- common7+ -/
noncomputable def zn208 : zCn := ((([(0, 0), zi_0, zi_0, zi_0, zi_0, zi_0, zi_0, zi_0, zi_0, zi_0, zi_0, zi_0, zi_0, zi_0, zi_463, zi_464], [(0, 15, 14, 0, (-1)), (6, 15, 14, 0, 1)]), [(1, 14, 0), (1, 15, 0)], []), [(([(0, 0), zi_0, zi_0, zi_0, zi_0, zi_0, zi_0, zi_0, zi_0, zi_0, zi_0, zi_0, zi_0, zi_0, zi_463, zi_464, zi_463], []), [(1, 16, 0)], [])])
noncomputable def zc208 : List zCt := []
noncomputable def zu208 : List (Nat × zCn) := [(191, zn206), (191, zn207)]
set_option maxRecDepth 100000 in
theorem zk208 : z_conB zSPd zD (z_callC 14 zu208 (z_runC zSPd 14 zu208 zD zDF zTC 20000 0)) zDF zTC 20000 17179869184 2 2 0 0 4 zT191 zn208 none zc208 = true := by decide +kernel
/-- common7- -/
noncomputable def zn209 : zCn := ((([(0, 0), zi_0, zi_0, zi_0, zi_0, zi_0, zi_0, zi_0, zi_0, zi_0, zi_0, zi_0, zi_0, zi_0, zi_465, zi_464], [(0, 14, 15, 0, (-1)), (5, 15, 14, 0, (-1))]), [(1, 14, 0), (1, 15, 0)], []), [(([(0, 0), zi_0, zi_0, zi_0, zi_0, zi_0, zi_0, zi_0, zi_0, zi_0, zi_0, zi_0, zi_0, zi_0, zi_465, zi_464, zi_463], []), [(1, 16, 0)], [])])
noncomputable def zc209 : List zCt := []
noncomputable def zu209 : List (Nat × zCn) := [(191, zn206), (191, zn207)]
set_option maxRecDepth 100000 in
theorem zk209 : z_conB zSPd zD (z_callC 14 zu209 (z_runC zSPd 14 zu209 zD zDF zTC 20000 0)) zDF zTC 20000 17179869184 2 2 0 0 4 zT191 zn209 none zc209 = true := by decide +kernel
/-- common8+ -/
noncomputable def zn210 : zCn := ((([(0, 0), zi_0, zi_0, zi_0, zi_0, zi_0, zi_0, zi_0, zi_0, zi_0, zi_0, zi_0, zi_0, zi_0, zi_466, zi_467], [(0, 15, 14, 0, (-1)), (6, 15, 14, 0, 1)]), [(1, 14, 0), (1, 15, 0)], []), [(([(0, 0), zi_0, zi_0, zi_0, zi_0, zi_0, zi_0, zi_0, zi_0, zi_0, zi_0, zi_0, zi_0, zi_0, zi_466, zi_467, zi_466], []), [(1, 16, 0)], [])])
noncomputable def zc210 : List zCt := []
noncomputable def zu210 : List (Nat × zCn) := [(191, zn208), (191, zn209)]
set_option maxRecDepth 100000 in
theorem zk210 : z_conB zSPd zD (z_callC 14 zu210 (z_runC zSPd 14 zu210 zD zDF zTC 20000 0)) zDF zTC 20000 17179869184 2 2 0 0 4 zT191 zn210 none zc210 = true := by decide +kernel
/-- common8- -/
noncomputable def zn211 : zCn := ((([(0, 0), zi_0, zi_0, zi_0, zi_0, zi_0, zi_0, zi_0, zi_0, zi_0, zi_0, zi_0, zi_0, zi_0, zi_468, zi_467], [(0, 14, 15, 0, (-1)), (5, 15, 14, 0, (-1))]), [(1, 14, 0), (1, 15, 0)], []), [(([(0, 0), zi_0, zi_0, zi_0, zi_0, zi_0, zi_0, zi_0, zi_0, zi_0, zi_0, zi_0, zi_0, zi_0, zi_468, zi_467, zi_466], []), [(1, 16, 0)], [])])
noncomputable def zc211 : List zCt := []
noncomputable def zu211 : List (Nat × zCn) := [(191, zn208), (191, zn209)]
set_option maxRecDepth 100000 in
theorem zk211 : z_conB zSPd zD (z_callC 14 zu211 (z_runC zSPd 14 zu211 zD zDF zTC 20000 0)) zDF zTC 20000 17179869184 2 2 0 0 4 zT191 zn211 none zc211 = true := by decide +kernel
/-- common9+ -/
noncomputable def zn212 : zCn := ((([(0, 0), zi_0, zi_0, zi_0, zi_0, zi_0, zi_0, zi_0, zi_0, zi_0, zi_0, zi_0, zi_0, zi_0, zi_469, zi_470], [(0, 15, 14, 0, (-1)), (6, 15, 14, 0, 1)]), [(1, 14, 0), (1, 15, 0)], []), [(([(0, 0), zi_0, zi_0, zi_0, zi_0, zi_0, zi_0, zi_0, zi_0, zi_0, zi_0, zi_0, zi_0, zi_0, zi_469, zi_470, zi_469], []), [(1, 16, 0)], [])])
noncomputable def zc212 : List zCt := []
noncomputable def zu212 : List (Nat × zCn) := [(191, zn210), (191, zn211)]
set_option maxRecDepth 100000 in
theorem zk212 : z_conB zSPd zD (z_callC 14 zu212 (z_runC zSPd 14 zu212 zD zDF zTC 20000 0)) zDF zTC 20000 17179869184 2 2 0 0 4 zT191 zn212 none zc212 = true := by decide +kernel
/-- common9- -/
noncomputable def zn213 : zCn := ((([(0, 0), zi_0, zi_0, zi_0, zi_0, zi_0, zi_0, zi_0, zi_0, zi_0, zi_0, zi_0, zi_0, zi_0, zi_471, zi_470], [(0, 14, 15, 0, (-1)), (5, 15, 14, 0, (-1))]), [(1, 14, 0), (1, 15, 0)], []), [(([(0, 0), zi_0, zi_0, zi_0, zi_0, zi_0, zi_0, zi_0, zi_0, zi_0, zi_0, zi_0, zi_0, zi_0, zi_471, zi_470, zi_469], []), [(1, 16, 0)], [])])
noncomputable def zc213 : List zCt := []
noncomputable def zu213 : List (Nat × zCn) := [(191, zn210), (191, zn211)]
set_option maxRecDepth 100000 in
theorem zk213 : z_conB zSPd zD (z_callC 14 zu213 (z_runC zSPd 14 zu213 zD zDF zTC 20000 0)) zDF zTC 20000 17179869184 2 2 0 0 4 zT191 zn213 none zc213 = true := by decide +kernel
/-- common10+ -/
noncomputable def zn214 : zCn := ((([(0, 0), zi_0, zi_0, zi_0, zi_0, zi_0, zi_0, zi_0, zi_0, zi_0, zi_0, zi_0, zi_0, zi_0, zi_472, zi_473], [(0, 15, 14, 0, (-1)), (6, 15, 14, 0, 1)]), [(1, 14, 0), (1, 15, 0)], []), [(([(0, 0), zi_0, zi_0, zi_0, zi_0, zi_0, zi_0, zi_0, zi_0, zi_0, zi_0, zi_0, zi_0, zi_0, zi_472, zi_473, zi_472], []), [(1, 16, 0)], [])])
noncomputable def zc214 : List zCt := []
noncomputable def zu214 : List (Nat × zCn) := [(191, zn212), (191, zn213)]
set_option maxRecDepth 100000 in
theorem zk214 : z_conB zSPd zD (z_callC 14 zu214 (z_runC zSPd 14 zu214 zD zDF zTC 20000 0)) zDF zTC 20000 17179869184 2 2 0 0 4 zT191 zn214 none zc214 = true := by decide +kernel
/-- common10- -/
noncomputable def zn215 : zCn := ((([(0, 0), zi_0, zi_0, zi_0, zi_0, zi_0, zi_0, zi_0, zi_0, zi_0, zi_0, zi_0, zi_0, zi_0, zi_474, zi_473], [(0, 14, 15, 0, (-1)), (5, 15, 14, 0, (-1))]), [(1, 14, 0), (1, 15, 0)], []), [(([(0, 0), zi_0, zi_0, zi_0, zi_0, zi_0, zi_0, zi_0, zi_0, zi_0, zi_0, zi_0, zi_0, zi_0, zi_474, zi_473, zi_472], []), [(1, 16, 0)], [])])
noncomputable def zc215 : List zCt := []
noncomputable def zu215 : List (Nat × zCn) := [(191, zn212), (191, zn213)]
set_option maxRecDepth 100000 in
theorem zk215 : z_conB zSPd zD (z_callC 14 zu215 (z_runC zSPd 14 zu215 zD zDF zTC 20000 0)) zDF zTC 20000 17179869184 2 2 0 0 4 zT191 zn215 none zc215 = true := by decide +kernel
/-- common11+ -/
noncomputable def zn216 : zCn := ((([(0, 0), zi_0, zi_0, zi_0, zi_0, zi_0, zi_0, zi_0, zi_0, zi_0, zi_0, zi_0, zi_0, zi_0, zi_475, zi_476], [(0, 15, 14, 0, (-1)), (6, 15, 14, 0, 1)]), [(1, 14, 0), (1, 15, 0)], []), [(([(0, 0), zi_0, zi_0, zi_0, zi_0, zi_0, zi_0, zi_0, zi_0, zi_0, zi_0, zi_0, zi_0, zi_0, zi_475, zi_476, zi_475], []), [(1, 16, 0)], [])])
noncomputable def zc216 : List zCt := []
noncomputable def zu216 : List (Nat × zCn) := [(191, zn214), (191, zn215)]
set_option maxRecDepth 100000 in
theorem zk216 : z_conB zSPd zD (z_callC 14 zu216 (z_runC zSPd 14 zu216 zD zDF zTC 20000 0)) zDF zTC 20000 17179869184 2 2 0 0 4 zT191 zn216 none zc216 = true := by decide +kernel
/-- common11- -/
noncomputable def zn217 : zCn := ((([(0, 0), zi_0, zi_0, zi_0, zi_0, zi_0, zi_0, zi_0, zi_0, zi_0, zi_0, zi_0, zi_0, zi_0, zi_477, zi_476], [(0, 14, 15, 0, (-1)), (5, 15, 14, 0, (-1))]), [(1, 14, 0), (1, 15, 0)], []), [(([(0, 0), zi_0, zi_0, zi_0, zi_0, zi_0, zi_0, zi_0, zi_0, zi_0, zi_0, zi_0, zi_0, zi_0, zi_477, zi_476, zi_475], []), [(1, 16, 0)], [])])
noncomputable def zc217 : List zCt := []
noncomputable def zu217 : List (Nat × zCn) := [(191, zn214), (191, zn215)]
set_option maxRecDepth 100000 in
theorem zk217 : z_conB zSPd zD (z_callC 14 zu217 (z_runC zSPd 14 zu217 zD zDF zTC 20000 0)) zDF zTC 20000 17179869184 2 2 0 0 4 zT191 zn217 none zc217 = true := by decide +kernel
/-- common12+ -/
noncomputable def zn218 : zCn := ((([(0, 0), zi_0, zi_0, zi_0, zi_0, zi_0, zi_0, zi_0, zi_0, zi_0, zi_0, zi_0, zi_0, zi_0, zi_478, zi_479], [(0, 15, 14, 0, (-1)), (6, 15, 14, 0, 1)]), [(1, 14, 0), (1, 15, 0)], []), [(([(0, 0), zi_0, zi_0, zi_0, zi_0, zi_0, zi_0, zi_0, zi_0, zi_0, zi_0, zi_0, zi_0, zi_0, zi_478, zi_479, zi_478], []), [(1, 16, 0)], [])])
noncomputable def zc218 : List zCt := []
noncomputable def zu218 : List (Nat × zCn) := [(191, zn216), (191, zn217)]
set_option maxRecDepth 100000 in
theorem zk218 : z_conB zSPd zD (z_callC 14 zu218 (z_runC zSPd 14 zu218 zD zDF zTC 20000 0)) zDF zTC 20000 17179869184 2 2 0 0 4 zT191 zn218 none zc218 = true := by decide +kernel
/-- common12- -/
noncomputable def zn219 : zCn := ((([(0, 0), zi_0, zi_0, zi_0, zi_0, zi_0, zi_0, zi_0, zi_0, zi_0, zi_0, zi_0, zi_0, zi_0, zi_480, zi_479], [(0, 14, 15, 0, (-1)), (5, 15, 14, 0, (-1))]), [(1, 14, 0), (1, 15, 0)], []), [(([(0, 0), zi_0, zi_0, zi_0, zi_0, zi_0, zi_0, zi_0, zi_0, zi_0, zi_0, zi_0, zi_0, zi_0, zi_480, zi_479, zi_478], []), [(1, 16, 0)], [])])
noncomputable def zc219 : List zCt := []
noncomputable def zu219 : List (Nat × zCn) := [(191, zn216), (191, zn217)]
set_option maxRecDepth 100000 in
theorem zk219 : z_conB zSPd zD (z_callC 14 zu219 (z_runC zSPd 14 zu219 zD zDF zTC 20000 0)) zDF zTC 20000 17179869184 2 2 0 0 4 zT191 zn219 none zc219 = true := by decide +kernel
/-- common13+ -/
noncomputable def zn220 : zCn := ((([(0, 0), zi_0, zi_0, zi_0, zi_0, zi_0, zi_0, zi_0, zi_0, zi_0, zi_0, zi_0, zi_0, zi_0, zi_481, zi_482], [(0, 15, 14, 0, (-1)), (6, 15, 14, 0, 1)]), [(1, 14, 0), (1, 15, 0)], []), [(([(0, 0), zi_0, zi_0, zi_0, zi_0, zi_0, zi_0, zi_0, zi_0, zi_0, zi_0, zi_0, zi_0, zi_0, zi_481, zi_482, zi_481], []), [(1, 16, 0)], [])])
noncomputable def zc220 : List zCt := []
noncomputable def zu220 : List (Nat × zCn) := [(191, zn218), (191, zn219)]
set_option maxRecDepth 100000 in
theorem zk220 : z_conB zSPd zD (z_callC 14 zu220 (z_runC zSPd 14 zu220 zD zDF zTC 20000 0)) zDF zTC 20000 17179869184 2 2 0 0 4 zT191 zn220 none zc220 = true := by decide +kernel
/-- common13- -/
noncomputable def zn221 : zCn := ((([(0, 0), zi_0, zi_0, zi_0, zi_0, zi_0, zi_0, zi_0, zi_0, zi_0, zi_0, zi_0, zi_0, zi_0, zi_483, zi_482], [(0, 14, 15, 0, (-1)), (5, 15, 14, 0, (-1))]), [(1, 14, 0), (1, 15, 0)], []), [(([(0, 0), zi_0, zi_0, zi_0, zi_0, zi_0, zi_0, zi_0, zi_0, zi_0, zi_0, zi_0, zi_0, zi_0, zi_483, zi_482, zi_481], []), [(1, 16, 0)], [])])
noncomputable def zc221 : List zCt := []
noncomputable def zu221 : List (Nat × zCn) := [(191, zn218), (191, zn219)]
set_option maxRecDepth 100000 in
theorem zk221 : z_conB zSPd zD (z_callC 14 zu221 (z_runC zSPd 14 zu221 zD zDF zTC 20000 0)) zDF zTC 20000 17179869184 2 2 0 0 4 zT191 zn221 none zc221 = true := by decide +kernel
/-- common14+ -/
noncomputable def zn222 : zCn := ((([(0, 0), zi_0, zi_0, zi_0, zi_0, zi_0, zi_0, zi_0, zi_0, zi_0, zi_0, zi_0, zi_0, zi_0, zi_484, zi_485], [(0, 15, 14, 0, (-1)), (6, 15, 14, 0, 1)]), [(1, 14, 0), (1, 15, 0)], []), [(([(0, 0), zi_0, zi_0, zi_0, zi_0, zi_0, zi_0, zi_0, zi_0, zi_0, zi_0, zi_0, zi_0, zi_0, zi_484, zi_485, zi_484], []), [(1, 16, 0)], [])])
noncomputable def zc222 : List zCt := []
noncomputable def zu222 : List (Nat × zCn) := [(191, zn220), (191, zn221)]
set_option maxRecDepth 100000 in
theorem zk222 : z_conB zSPd zD (z_callC 14 zu222 (z_runC zSPd 14 zu222 zD zDF zTC 20000 0)) zDF zTC 20000 17179869184 2 2 0 0 4 zT191 zn222 none zc222 = true := by decide +kernel
/-- common14- -/
noncomputable def zn223 : zCn := ((([(0, 0), zi_0, zi_0, zi_0, zi_0, zi_0, zi_0, zi_0, zi_0, zi_0, zi_0, zi_0, zi_0, zi_0, zi_486, zi_485], [(0, 14, 15, 0, (-1)), (5, 15, 14, 0, (-1))]), [(1, 14, 0), (1, 15, 0)], []), [(([(0, 0), zi_0, zi_0, zi_0, zi_0, zi_0, zi_0, zi_0, zi_0, zi_0, zi_0, zi_0, zi_0, zi_0, zi_486, zi_485, zi_484], []), [(1, 16, 0)], [])])
noncomputable def zc223 : List zCt := []
noncomputable def zu223 : List (Nat × zCn) := [(191, zn220), (191, zn221)]
set_option maxRecDepth 100000 in
theorem zk223 : z_conB zSPd zD (z_callC 14 zu223 (z_runC zSPd 14 zu223 zD zDF zTC 20000 0)) zDF zTC 20000 17179869184 2 2 0 0 4 zT191 zn223 none zc223 = true := by decide +kernel
/-- common15+ -/
noncomputable def zn224 : zCn := ((([(0, 0), zi_0, zi_0, zi_0, zi_0, zi_0, zi_0, zi_0, zi_0, zi_0, zi_0, zi_0, zi_0, zi_0, zi_487, zi_488], [(0, 15, 14, 0, (-1)), (6, 15, 14, 0, 1)]), [(1, 14, 0), (1, 15, 0)], []), [(([(0, 0), zi_0, zi_0, zi_0, zi_0, zi_0, zi_0, zi_0, zi_0, zi_0, zi_0, zi_0, zi_0, zi_0, zi_487, zi_488, zi_487], []), [(1, 16, 0)], [])])
noncomputable def zc224 : List zCt := []
noncomputable def zu224 : List (Nat × zCn) := [(191, zn222), (191, zn223)]
set_option maxRecDepth 100000 in
theorem zk224 : z_conB zSPd zD (z_callC 14 zu224 (z_runC zSPd 14 zu224 zD zDF zTC 20000 0)) zDF zTC 20000 17179869184 2 2 0 0 4 zT191 zn224 none zc224 = true := by decide +kernel
/-- common15- -/
noncomputable def zn225 : zCn := ((([(0, 0), zi_0, zi_0, zi_0, zi_0, zi_0, zi_0, zi_0, zi_0, zi_0, zi_0, zi_0, zi_0, zi_0, zi_489, zi_488], [(0, 14, 15, 0, (-1)), (5, 15, 14, 0, (-1))]), [(1, 14, 0), (1, 15, 0)], []), [(([(0, 0), zi_0, zi_0, zi_0, zi_0, zi_0, zi_0, zi_0, zi_0, zi_0, zi_0, zi_0, zi_0, zi_0, zi_489, zi_488, zi_487], []), [(1, 16, 0)], [])])
noncomputable def zc225 : List zCt := []
noncomputable def zu225 : List (Nat × zCn) := [(191, zn222), (191, zn223)]
set_option maxRecDepth 100000 in
theorem zk225 : z_conB zSPd zD (z_callC 14 zu225 (z_runC zSPd 14 zu225 zD zDF zTC 20000 0)) zDF zTC 20000 17179869184 2 2 0 0 4 zT191 zn225 none zc225 = true := by decide +kernel
/-- common16+ -/
noncomputable def zn226 : zCn := ((([(0, 0), zi_0, zi_0, zi_0, zi_0, zi_0, zi_0, zi_0, zi_0, zi_0, zi_0, zi_0, zi_0, zi_0, zi_490, zi_491], [(0, 15, 14, 0, (-1)), (6, 15, 14, 0, 1)]), [(1, 14, 0), (1, 15, 0)], []), [(([(0, 0), zi_0, zi_0, zi_0, zi_0, zi_0, zi_0, zi_0, zi_0, zi_0, zi_0, zi_0, zi_0, zi_0, zi_490, zi_491, zi_490], []), [(1, 16, 0)], [])])
noncomputable def zc226 : List zCt := []
noncomputable def zu226 : List (Nat × zCn) := [(191, zn224), (191, zn225)]
set_option maxRecDepth 100000 in
theorem zk226 : z_conB zSPd zD (z_callC 14 zu226 (z_runC zSPd 14 zu226 zD zDF zTC 20000 0)) zDF zTC 20000 17179869184 2 2 0 0 4 zT191 zn226 none zc226 = true := by decide +kernel
/-- common16- -/
noncomputable def zn227 : zCn := ((([(0, 0), zi_0, zi_0, zi_0, zi_0, zi_0, zi_0, zi_0, zi_0, zi_0, zi_0, zi_0, zi_0, zi_0, zi_492, zi_491], [(0, 14, 15, 0, (-1)), (5, 15, 14, 0, (-1))]), [(1, 14, 0), (1, 15, 0)], []), [(([(0, 0), zi_0, zi_0, zi_0, zi_0, zi_0, zi_0, zi_0, zi_0, zi_0, zi_0, zi_0, zi_0, zi_0, zi_492, zi_491, zi_490], []), [(1, 16, 0)], [])])
noncomputable def zc227 : List zCt := []
noncomputable def zu227 : List (Nat × zCn) := [(191, zn224), (191, zn225)]
set_option maxRecDepth 100000 in
theorem zk227 : z_conB zSPd zD (z_callC 14 zu227 (z_runC zSPd 14 zu227 zD zDF zTC 20000 0)) zDF zTC 20000 17179869184 2 2 0 0 4 zT191 zn227 none zc227 = true := by decide +kernel
/-- common17+ -/
noncomputable def zn228 : zCn := ((([(0, 0), zi_0, zi_0, zi_0, zi_0, zi_0, zi_0, zi_0, zi_0, zi_0, zi_0, zi_0, zi_0, zi_0, zi_493, zi_494], [(0, 15, 14, 0, (-1)), (6, 15, 14, 0, 1)]), [(1, 14, 0), (1, 15, 0)], []), [(([(0, 0), zi_0, zi_0, zi_0, zi_0, zi_0, zi_0, zi_0, zi_0, zi_0, zi_0, zi_0, zi_0, zi_0, zi_493, zi_494, zi_493], []), [(1, 16, 0)], [])])
noncomputable def zc228 : List zCt := []
noncomputable def zu228 : List (Nat × zCn) := [(191, zn226), (191, zn227)]
set_option maxRecDepth 100000 in
theorem zk228 : z_conB zSPd zD (z_callC 14 zu228 (z_runC zSPd 14 zu228 zD zDF zTC 20000 0)) zDF zTC 20000 17179869184 2 2 0 0 4 zT191 zn228 none zc228 = true := by decide +kernel
/-- common17- -/
noncomputable def zn229 : zCn := ((([(0, 0), zi_0, zi_0, zi_0, zi_0, zi_0, zi_0, zi_0, zi_0, zi_0, zi_0, zi_0, zi_0, zi_0, zi_495, zi_494], [(0, 14, 15, 0, (-1)), (5, 15, 14, 0, (-1))]), [(1, 14, 0), (1, 15, 0)], []), [(([(0, 0), zi_0, zi_0, zi_0, zi_0, zi_0, zi_0, zi_0, zi_0, zi_0, zi_0, zi_0, zi_0, zi_0, zi_495, zi_494, zi_493], []), [(1, 16, 0)], [])])
noncomputable def zc229 : List zCt := []
noncomputable def zu229 : List (Nat × zCn) := [(191, zn226), (191, zn227)]
set_option maxRecDepth 100000 in
theorem zk229 : z_conB zSPd zD (z_callC 14 zu229 (z_runC zSPd 14 zu229 zD zDF zTC 20000 0)) zDF zTC 20000 17179869184 2 2 0 0 4 zT191 zn229 none zc229 = true := by decide +kernel
/-- common18+ -/
noncomputable def zn230 : zCn := ((([(0, 0), zi_0, zi_0, zi_0, zi_0, zi_0, zi_0, zi_0, zi_0, zi_0, zi_0, zi_0, zi_0, zi_0, zi_496, zi_497], [(0, 15, 14, 0, (-1)), (6, 15, 14, 0, 1)]), [(1, 14, 0), (1, 15, 0)], []), [(([(0, 0), zi_0, zi_0, zi_0, zi_0, zi_0, zi_0, zi_0, zi_0, zi_0, zi_0, zi_0, zi_0, zi_0, zi_496, zi_497, zi_496], []), [(1, 16, 0)], [])])
noncomputable def zc230 : List zCt := []
noncomputable def zu230 : List (Nat × zCn) := [(191, zn228), (191, zn229)]
set_option maxRecDepth 100000 in
theorem zk230 : z_conB zSPd zD (z_callC 14 zu230 (z_runC zSPd 14 zu230 zD zDF zTC 20000 0)) zDF zTC 20000 17179869184 2 2 0 0 4 zT191 zn230 none zc230 = true := by decide +kernel
/-- common18- -/
noncomputable def zn231 : zCn := ((([(0, 0), zi_0, zi_0, zi_0, zi_0, zi_0, zi_0, zi_0, zi_0, zi_0, zi_0, zi_0, zi_0, zi_0, zi_498, zi_497], [(0, 14, 15, 0, (-1)), (5, 15, 14, 0, (-1))]), [(1, 14, 0), (1, 15, 0)], []), [(([(0, 0), zi_0, zi_0, zi_0, zi_0, zi_0, zi_0, zi_0, zi_0, zi_0, zi_0, zi_0, zi_0, zi_0, zi_498, zi_497, zi_496], []), [(1, 16, 0)], [])])
noncomputable def zc231 : List zCt := []
noncomputable def zu231 : List (Nat × zCn) := [(191, zn228), (191, zn229)]
set_option maxRecDepth 100000 in
theorem zk231 : z_conB zSPd zD (z_callC 14 zu231 (z_runC zSPd 14 zu231 zD zDF zTC 20000 0)) zDF zTC 20000 17179869184 2 2 0 0 4 zT191 zn231 none zc231 = true := by decide +kernel
/-- common19+ -/
noncomputable def zn232 : zCn := ((([(0, 0), zi_0, zi_0, zi_0, zi_0, zi_0, zi_0, zi_0, zi_0, zi_0, zi_0, zi_0, zi_0, zi_0, zi_499, zi_500], [(0, 15, 14, 0, (-1)), (6, 15, 14, 0, 1)]), [(1, 14, 0), (1, 15, 0)], []), [(([(0, 0), zi_0, zi_0, zi_0, zi_0, zi_0, zi_0, zi_0, zi_0, zi_0, zi_0, zi_0, zi_0, zi_0, zi_499, zi_500, zi_499], []), [(1, 16, 0)], [])])
noncomputable def zc232 : List zCt := []
noncomputable def zu232 : List (Nat × zCn) := [(191, zn230), (191, zn231)]
set_option maxRecDepth 100000 in
theorem zk232 : z_conB zSPd zD (z_callC 14 zu232 (z_runC zSPd 14 zu232 zD zDF zTC 20000 0)) zDF zTC 20000 17179869184 2 2 0 0 4 zT191 zn232 none zc232 = true := by decide +kernel
/-- common19- -/
noncomputable def zn233 : zCn := ((([(0, 0), zi_0, zi_0, zi_0, zi_0, zi_0, zi_0, zi_0, zi_0, zi_0, zi_0, zi_0, zi_0, zi_0, zi_501, zi_500], [(0, 14, 15, 0, (-1)), (5, 15, 14, 0, (-1))]), [(1, 14, 0), (1, 15, 0)], []), [(([(0, 0), zi_0, zi_0, zi_0, zi_0, zi_0, zi_0, zi_0, zi_0, zi_0, zi_0, zi_0, zi_0, zi_0, zi_501, zi_500, zi_499], []), [(1, 16, 0)], [])])
noncomputable def zc233 : List zCt := []
noncomputable def zu233 : List (Nat × zCn) := [(191, zn230), (191, zn231)]
set_option maxRecDepth 100000 in
theorem zk233 : z_conB zSPd zD (z_callC 14 zu233 (z_runC zSPd 14 zu233 zD zDF zTC 20000 0)) zDF zTC 20000 17179869184 2 2 0 0 4 zT191 zn233 none zc233 = true := by decide +kernel
/-- common20+ -/
noncomputable def zn234 : zCn := ((([(0, 0), zi_0, zi_0, zi_0, zi_0, zi_0, zi_0, zi_0, zi_0, zi_0, zi_0, zi_0, zi_0, zi_0, zi_502, zi_503], [(0, 15, 14, 0, (-1)), (6, 15, 14, 0, 1)]), [(1, 14, 0), (1, 15, 0)], []), [(([(0, 0), zi_0, zi_0, zi_0, zi_0, zi_0, zi_0, zi_0, zi_0, zi_0, zi_0, zi_0, zi_0, zi_0, zi_502, zi_503, zi_502], []), [(1, 16, 0)], [])])
noncomputable def zc234 : List zCt := []
noncomputable def zu234 : List (Nat × zCn) := [(191, zn232), (191, zn233)]
set_option maxRecDepth 100000 in
theorem zk234 : z_conB zSPd zD (z_callC 14 zu234 (z_runC zSPd 14 zu234 zD zDF zTC 20000 0)) zDF zTC 20000 17179869184 2 2 0 0 4 zT191 zn234 none zc234 = true := by decide +kernel
/-- common20- -/
noncomputable def zn235 : zCn := ((([(0, 0), zi_0, zi_0, zi_0, zi_0, zi_0, zi_0, zi_0, zi_0, zi_0, zi_0, zi_0, zi_0, zi_0, zi_504, zi_503], [(0, 14, 15, 0, (-1)), (5, 15, 14, 0, (-1))]), [(1, 14, 0), (1, 15, 0)], []), [(([(0, 0), zi_0, zi_0, zi_0, zi_0, zi_0, zi_0, zi_0, zi_0, zi_0, zi_0, zi_0, zi_0, zi_0, zi_504, zi_503, zi_502], []), [(1, 16, 0)], [])])
noncomputable def zc235 : List zCt := []
noncomputable def zu235 : List (Nat × zCn) := [(191, zn232), (191, zn233)]
set_option maxRecDepth 100000 in
theorem zk235 : z_conB zSPd zD (z_callC 14 zu235 (z_runC zSPd 14 zu235 zD zDF zTC 20000 0)) zDF zTC 20000 17179869184 2 2 0 0 4 zT191 zn235 none zc235 = true := by decide +kernel
/-- common21+ -/
noncomputable def zn236 : zCn := ((([(0, 0), zi_0, zi_0, zi_0, zi_0, zi_0, zi_0, zi_0, zi_0, zi_0, zi_0, zi_0, zi_0, zi_0, zi_505, zi_506], [(0, 15, 14, 0, (-1)), (6, 15, 14, 0, 1)]), [(1, 14, 0), (1, 15, 0)], []), [(([(0, 0), zi_0, zi_0, zi_0, zi_0, zi_0, zi_0, zi_0, zi_0, zi_0, zi_0, zi_0, zi_0, zi_0, zi_505, zi_506, zi_505], []), [(1, 16, 0)], [])])
noncomputable def zc236 : List zCt := []
noncomputable def zu236 : List (Nat × zCn) := [(191, zn234), (191, zn235)]
set_option maxRecDepth 100000 in
theorem zk236 : z_conB zSPd zD (z_callC 14 zu236 (z_runC zSPd 14 zu236 zD zDF zTC 20000 0)) zDF zTC 20000 17179869184 2 2 0 0 4 zT191 zn236 none zc236 = true := by decide +kernel
/-- common21- -/
noncomputable def zn237 : zCn := ((([(0, 0), zi_0, zi_0, zi_0, zi_0, zi_0, zi_0, zi_0, zi_0, zi_0, zi_0, zi_0, zi_0, zi_0, zi_507, zi_506], [(0, 14, 15, 0, (-1)), (5, 15, 14, 0, (-1))]), [(1, 14, 0), (1, 15, 0)], []), [(([(0, 0), zi_0, zi_0, zi_0, zi_0, zi_0, zi_0, zi_0, zi_0, zi_0, zi_0, zi_0, zi_0, zi_0, zi_507, zi_506, zi_505], []), [(1, 16, 0)], [])])
noncomputable def zc237 : List zCt := []
noncomputable def zu237 : List (Nat × zCn) := [(191, zn234), (191, zn235)]
set_option maxRecDepth 100000 in
theorem zk237 : z_conB zSPd zD (z_callC 14 zu237 (z_runC zSPd 14 zu237 zD zDF zTC 20000 0)) zDF zTC 20000 17179869184 2 2 0 0 4 zT191 zn237 none zc237 = true := by decide +kernel
/-- common22+ -/
noncomputable def zn238 : zCn := ((([(0, 0), zi_0, zi_0, zi_0, zi_0, zi_0, zi_0, zi_0, zi_0, zi_0, zi_0, zi_0, zi_0, zi_0, zi_508, zi_509], [(0, 15, 14, 0, (-1)), (6, 15, 14, 0, 1)]), [(1, 14, 0), (1, 15, 0)], []), [(([(0, 0), zi_0, zi_0, zi_0, zi_0, zi_0, zi_0, zi_0, zi_0, zi_0, zi_0, zi_0, zi_0, zi_0, zi_508, zi_509, zi_508], []), [(1, 16, 0)], [])])
noncomputable def zc238 : List zCt := []
noncomputable def zu238 : List (Nat × zCn) := [(191, zn236), (191, zn237)]
set_option maxRecDepth 100000 in
theorem zk238 : z_conB zSPd zD (z_callC 14 zu238 (z_runC zSPd 14 zu238 zD zDF zTC 20000 0)) zDF zTC 20000 17179869184 2 2 0 0 4 zT191 zn238 none zc238 = true := by decide +kernel
/-- common22- -/
noncomputable def zn239 : zCn := ((([(0, 0), zi_0, zi_0, zi_0, zi_0, zi_0, zi_0, zi_0, zi_0, zi_0, zi_0, zi_0, zi_0, zi_0, zi_510, zi_509], [(0, 14, 15, 0, (-1)), (5, 15, 14, 0, (-1))]), [(1, 14, 0), (1, 15, 0)], []), [(([(0, 0), zi_0, zi_0, zi_0, zi_0, zi_0, zi_0, zi_0, zi_0, zi_0, zi_0, zi_0, zi_0, zi_0, zi_510, zi_509, zi_508], []), [(1, 16, 0)], [])])
noncomputable def zc239 : List zCt := []
noncomputable def zu239 : List (Nat × zCn) := [(191, zn236), (191, zn237)]
set_option maxRecDepth 100000 in
theorem zk239 : z_conB zSPd zD (z_callC 14 zu239 (z_runC zSPd 14 zu239 zD zDF zTC 20000 0)) zDF zTC 20000 17179869184 2 2 0 0 4 zT191 zn239 none zc239 = true := by decide +kernel
/-- common23+ -/
noncomputable def zn240 : zCn := ((([(0, 0), zi_0, zi_0, zi_0, zi_0, zi_0, zi_0, zi_0, zi_0, zi_0, zi_0, zi_0, zi_0, zi_0, zi_511, zi_512], [(0, 15, 14, 0, (-1)), (6, 15, 14, 0, 1)]), [(1, 14, 0), (1, 15, 0)], []), [(([(0, 0), zi_0, zi_0, zi_0, zi_0, zi_0, zi_0, zi_0, zi_0, zi_0, zi_0, zi_0, zi_0, zi_0, zi_511, zi_512, zi_511], []), [(1, 16, 0)], [])])
noncomputable def zc240 : List zCt := []
noncomputable def zu240 : List (Nat × zCn) := [(191, zn238), (191, zn239)]
set_option maxRecDepth 100000 in
theorem zk240 : z_conB zSPd zD (z_callC 14 zu240 (z_runC zSPd 14 zu240 zD zDF zTC 20000 0)) zDF zTC 20000 17179869184 2 2 0 0 4 zT191 zn240 none zc240 = true := by decide +kernel
/-- common23- -/
noncomputable def zn241 : zCn := ((([(0, 0), zi_0, zi_0, zi_0, zi_0, zi_0, zi_0, zi_0, zi_0, zi_0, zi_0, zi_0, zi_0, zi_0, zi_513, zi_512], [(0, 14, 15, 0, (-1)), (5, 15, 14, 0, (-1))]), [(1, 14, 0), (1, 15, 0)], []), [(([(0, 0), zi_0, zi_0, zi_0, zi_0, zi_0, zi_0, zi_0, zi_0, zi_0, zi_0, zi_0, zi_0, zi_0, zi_513, zi_512, zi_511], []), [(1, 16, 0)], [])])
noncomputable def zc241 : List zCt := []
noncomputable def zu241 : List (Nat × zCn) := [(191, zn238), (191, zn239)]
set_option maxRecDepth 100000 in
theorem zk241 : z_conB zSPd zD (z_callC 14 zu241 (z_runC zSPd 14 zu241 zD zDF zTC 20000 0)) zDF zTC 20000 17179869184 2 2 0 0 4 zT191 zn241 none zc241 = true := by decide +kernel
/-- common24+ -/
noncomputable def zn242 : zCn := ((([(0, 0), zi_0, zi_0, zi_0, zi_0, zi_0, zi_0, zi_0, zi_0, zi_0, zi_0, zi_0, zi_0, zi_0, zi_514, zi_515], [(0, 15, 14, 0, (-1)), (6, 15, 14, 0, 1)]), [(1, 14, 0), (1, 15, 0)], []), [(([(0, 0), zi_0, zi_0, zi_0, zi_0, zi_0, zi_0, zi_0, zi_0, zi_0, zi_0, zi_0, zi_0, zi_0, zi_514, zi_515, zi_514], []), [(1, 16, 0)], [])])
noncomputable def zc242 : List zCt := []
noncomputable def zu242 : List (Nat × zCn) := [(191, zn240), (191, zn241)]
set_option maxRecDepth 100000 in
theorem zk242 : z_conB zSPd zD (z_callC 14 zu242 (z_runC zSPd 14 zu242 zD zDF zTC 20000 0)) zDF zTC 20000 17179869184 2 2 0 0 4 zT191 zn242 none zc242 = true := by decide +kernel
/-- common24- -/
noncomputable def zn243 : zCn := ((([(0, 0), zi_0, zi_0, zi_0, zi_0, zi_0, zi_0, zi_0, zi_0, zi_0, zi_0, zi_0, zi_0, zi_0, zi_516, zi_515], [(0, 14, 15, 0, (-1)), (5, 15, 14, 0, (-1))]), [(1, 14, 0), (1, 15, 0)], []), [(([(0, 0), zi_0, zi_0, zi_0, zi_0, zi_0, zi_0, zi_0, zi_0, zi_0, zi_0, zi_0, zi_0, zi_0, zi_516, zi_515, zi_514], []), [(1, 16, 0)], [])])
noncomputable def zc243 : List zCt := []
noncomputable def zu243 : List (Nat × zCn) := [(191, zn240), (191, zn241)]
set_option maxRecDepth 100000 in
theorem zk243 : z_conB zSPd zD (z_callC 14 zu243 (z_runC zSPd 14 zu243 zD zDF zTC 20000 0)) zDF zTC 20000 17179869184 2 2 0 0 4 zT191 zn243 none zc243 = true := by decide +kernel
/-- common25+ -/
noncomputable def zn244 : zCn := ((([(0, 0), zi_0, zi_0, zi_0, zi_0, zi_0, zi_0, zi_0, zi_0, zi_0, zi_0, zi_0, zi_0, zi_0, zi_517, zi_518], [(0, 15, 14, 0, (-1)), (6, 15, 14, 0, 1)]), [(1, 14, 0), (1, 15, 0)], []), [(([(0, 0), zi_0, zi_0, zi_0, zi_0, zi_0, zi_0, zi_0, zi_0, zi_0, zi_0, zi_0, zi_0, zi_0, zi_517, zi_518, zi_517], []), [(1, 16, 0)], [])])
noncomputable def zc244 : List zCt := []
noncomputable def zu244 : List (Nat × zCn) := [(191, zn242), (191, zn243)]
set_option maxRecDepth 100000 in
theorem zk244 : z_conB zSPd zD (z_callC 14 zu244 (z_runC zSPd 14 zu244 zD zDF zTC 20000 0)) zDF zTC 20000 17179869184 2 2 0 0 4 zT191 zn244 none zc244 = true := by decide +kernel
/-- common25- -/
noncomputable def zn245 : zCn := ((([(0, 0), zi_0, zi_0, zi_0, zi_0, zi_0, zi_0, zi_0, zi_0, zi_0, zi_0, zi_0, zi_0, zi_0, zi_519, zi_518], [(0, 14, 15, 0, (-1)), (5, 15, 14, 0, (-1))]), [(1, 14, 0), (1, 15, 0)], []), [(([(0, 0), zi_0, zi_0, zi_0, zi_0, zi_0, zi_0, zi_0, zi_0, zi_0, zi_0, zi_0, zi_0, zi_0, zi_519, zi_518, zi_517], []), [(1, 16, 0)], [])])
noncomputable def zc245 : List zCt := []
noncomputable def zu245 : List (Nat × zCn) := [(191, zn242), (191, zn243)]
set_option maxRecDepth 100000 in
theorem zk245 : z_conB zSPd zD (z_callC 14 zu245 (z_runC zSPd 14 zu245 zD zDF zTC 20000 0)) zDF zTC 20000 17179869184 2 2 0 0 4 zT191 zn245 none zc245 = true := by decide +kernel
/-- common26+ -/
noncomputable def zn246 : zCn := ((([(0, 0), zi_0, zi_0, zi_0, zi_0, zi_0, zi_0, zi_0, zi_0, zi_0, zi_0, zi_0, zi_0, zi_0, zi_520, zi_521], [(0, 15, 14, 0, (-1)), (6, 15, 14, 0, 1)]), [(1, 14, 0), (1, 15, 0)], []), [(([(0, 0), zi_0, zi_0, zi_0, zi_0, zi_0, zi_0, zi_0, zi_0, zi_0, zi_0, zi_0, zi_0, zi_0, zi_520, zi_521, zi_520], []), [(1, 16, 0)], [])])
noncomputable def zc246 : List zCt := []
noncomputable def zu246 : List (Nat × zCn) := [(191, zn244), (191, zn245)]
set_option maxRecDepth 100000 in
theorem zk246 : z_conB zSPd zD (z_callC 14 zu246 (z_runC zSPd 14 zu246 zD zDF zTC 20000 0)) zDF zTC 20000 17179869184 2 2 0 0 4 zT191 zn246 none zc246 = true := by decide +kernel
/-- common26- -/
noncomputable def zn247 : zCn := ((([(0, 0), zi_0, zi_0, zi_0, zi_0, zi_0, zi_0, zi_0, zi_0, zi_0, zi_0, zi_0, zi_0, zi_0, zi_522, zi_521], [(0, 14, 15, 0, (-1)), (5, 15, 14, 0, (-1))]), [(1, 14, 0), (1, 15, 0)], []), [(([(0, 0), zi_0, zi_0, zi_0, zi_0, zi_0, zi_0, zi_0, zi_0, zi_0, zi_0, zi_0, zi_0, zi_0, zi_522, zi_521, zi_520], []), [(1, 16, 0)], [])])
noncomputable def zc247 : List zCt := []
noncomputable def zu247 : List (Nat × zCn) := [(191, zn244), (191, zn245)]
set_option maxRecDepth 100000 in
theorem zk247 : z_conB zSPd zD (z_callC 14 zu247 (z_runC zSPd 14 zu247 zD zDF zTC 20000 0)) zDF zTC 20000 17179869184 2 2 0 0 4 zT191 zn247 none zc247 = true := by decide +kernel
/-- common27+ -/
noncomputable def zn248 : zCn := ((([(0, 0), zi_0, zi_0, zi_0, zi_0, zi_0, zi_0, zi_0, zi_0, zi_0, zi_0, zi_0, zi_0, zi_0, zi_523, zi_524], [(0, 15, 14, 0, (-1)), (6, 15, 14, 0, 1)]), [(1, 14, 0), (1, 15, 0)], []), [(([(0, 0), zi_0, zi_0, zi_0, zi_0, zi_0, zi_0, zi_0, zi_0, zi_0, zi_0, zi_0, zi_0, zi_0, zi_523, zi_524, zi_523], []), [(1, 16, 0)], [])])
noncomputable def zc248 : List zCt := []
noncomputable def zu248 : List (Nat × zCn) := [(191, zn246), (191, zn247)]
set_option maxRecDepth 100000 in
theorem zk248 : z_conB zSPd zD (z_callC 14 zu248 (z_runC zSPd 14 zu248 zD zDF zTC 20000 0)) zDF zTC 20000 17179869184 2 2 0 0 4 zT191 zn248 none zc248 = true := by decide +kernel
/-- common27- -/
noncomputable def zn249 : zCn := ((([(0, 0), zi_0, zi_0, zi_0, zi_0, zi_0, zi_0, zi_0, zi_0, zi_0, zi_0, zi_0, zi_0, zi_0, zi_525, zi_524], [(0, 14, 15, 0, (-1)), (5, 15, 14, 0, (-1))]), [(1, 14, 0), (1, 15, 0)], []), [(([(0, 0), zi_0, zi_0, zi_0, zi_0, zi_0, zi_0, zi_0, zi_0, zi_0, zi_0, zi_0, zi_0, zi_0, zi_525, zi_524, zi_523], []), [(1, 16, 0)], [])])
noncomputable def zc249 : List zCt := []
noncomputable def zu249 : List (Nat × zCn) := [(191, zn246), (191, zn247)]
set_option maxRecDepth 100000 in
theorem zk249 : z_conB zSPd zD (z_callC 14 zu249 (z_runC zSPd 14 zu249 zD zDF zTC 20000 0)) zDF zTC 20000 17179869184 2 2 0 0 4 zT191 zn249 none zc249 = true := by decide +kernel
/-- common28+ -/
noncomputable def zn250 : zCn := ((([(0, 0), zi_0, zi_0, zi_0, zi_0, zi_0, zi_0, zi_0, zi_0, zi_0, zi_0, zi_0, zi_0, zi_0, zi_526, zi_527], [(0, 15, 14, 0, (-1)), (6, 15, 14, 0, 1)]), [(1, 14, 0), (1, 15, 0)], []), [(([(0, 0), zi_0, zi_0, zi_0, zi_0, zi_0, zi_0, zi_0, zi_0, zi_0, zi_0, zi_0, zi_0, zi_0, zi_526, zi_527, zi_526], []), [(1, 16, 0)], [])])
noncomputable def zc250 : List zCt := []
noncomputable def zu250 : List (Nat × zCn) := [(191, zn248), (191, zn249)]
set_option maxRecDepth 100000 in
theorem zk250 : z_conB zSPd zD (z_callC 14 zu250 (z_runC zSPd 14 zu250 zD zDF zTC 20000 0)) zDF zTC 20000 17179869184 2 2 0 0 4 zT191 zn250 none zc250 = true := by decide +kernel
/-- common28- -/
noncomputable def zn251 : zCn := ((([(0, 0), zi_0, zi_0, zi_0, zi_0, zi_0, zi_0, zi_0, zi_0, zi_0, zi_0, zi_0, zi_0, zi_0, zi_528, zi_527], [(0, 14, 15, 0, (-1)), (5, 15, 14, 0, (-1))]), [(1, 14, 0), (1, 15, 0)], []), [(([(0, 0), zi_0, zi_0, zi_0, zi_0, zi_0, zi_0, zi_0, zi_0, zi_0, zi_0, zi_0, zi_0, zi_0, zi_528, zi_527, zi_526], []), [(1, 16, 0)], [])])
noncomputable def zc251 : List zCt := []
noncomputable def zu251 : List (Nat × zCn) := [(191, zn248), (191, zn249)]
set_option maxRecDepth 100000 in
theorem zk251 : z_conB zSPd zD (z_callC 14 zu251 (z_runC zSPd 14 zu251 zD zDF zTC 20000 0)) zDF zTC 20000 17179869184 2 2 0 0 4 zT191 zn251 none zc251 = true := by decide +kernel
/-- common29+ -/
noncomputable def zn252 : zCn := ((([(0, 0), zi_0, zi_0, zi_0, zi_0, zi_0, zi_0, zi_0, zi_0, zi_0, zi_0, zi_0, zi_0, zi_0, zi_529, zi_530], [(0, 15, 14, 0, (-1)), (6, 15, 14, 0, 1)]), [(1, 14, 0), (1, 15, 0)], []), [(([(0, 0), zi_0, zi_0, zi_0, zi_0, zi_0, zi_0, zi_0, zi_0, zi_0, zi_0, zi_0, zi_0, zi_0, zi_529, zi_530, zi_529], []), [(1, 16, 0)], [])])
noncomputable def zc252 : List zCt := []
noncomputable def zu252 : List (Nat × zCn) := [(191, zn250), (191, zn251)]
set_option maxRecDepth 100000 in
theorem zk252 : z_conB zSPd zD (z_callC 14 zu252 (z_runC zSPd 14 zu252 zD zDF zTC 20000 0)) zDF zTC 20000 17179869184 2 2 0 0 4 zT191 zn252 none zc252 = true := by decide +kernel
/-- common29- -/
noncomputable def zn253 : zCn := ((([(0, 0), zi_0, zi_0, zi_0, zi_0, zi_0, zi_0, zi_0, zi_0, zi_0, zi_0, zi_0, zi_0, zi_0, zi_531, zi_530], [(0, 14, 15, 0, (-1)), (5, 15, 14, 0, (-1))]), [(1, 14, 0), (1, 15, 0)], []), [(([(0, 0), zi_0, zi_0, zi_0, zi_0, zi_0, zi_0, zi_0, zi_0, zi_0, zi_0, zi_0, zi_0, zi_0, zi_531, zi_530, zi_529], []), [(1, 16, 0)], [])])
noncomputable def zc253 : List zCt := []
noncomputable def zu253 : List (Nat × zCn) := [(191, zn250), (191, zn251)]
set_option maxRecDepth 100000 in
theorem zk253 : z_conB zSPd zD (z_callC 14 zu253 (z_runC zSPd 14 zu253 zD zDF zTC 20000 0)) zDF zTC 20000 17179869184 2 2 0 0 4 zT191 zn253 none zc253 = true := by decide +kernel
/-- common30+ -/
noncomputable def zn254 : zCn := ((([(0, 0), zi_0, zi_0, zi_0, zi_0, zi_0, zi_0, zi_0, zi_0, zi_0, zi_0, zi_0, zi_0, zi_0, zi_532, zi_533], [(0, 15, 14, 0, (-1)), (6, 15, 14, 0, 1)]), [(1, 14, 0), (1, 15, 0)], []), [(([(0, 0), zi_0, zi_0, zi_0, zi_0, zi_0, zi_0, zi_0, zi_0, zi_0, zi_0, zi_0, zi_0, zi_0, zi_532, zi_533, zi_532], []), [(1, 16, 0)], [])])
noncomputable def zc254 : List zCt := []
noncomputable def zu254 : List (Nat × zCn) := [(191, zn252), (191, zn253)]
set_option maxRecDepth 100000 in
theorem zk254 : z_conB zSPd zD (z_callC 14 zu254 (z_runC zSPd 14 zu254 zD zDF zTC 20000 0)) zDF zTC 20000 17179869184 2 2 0 0 4 zT191 zn254 none zc254 = true := by decide +kernel
/-- common30- -/
noncomputable def zn255 : zCn := ((([(0, 0), zi_0, zi_0, zi_0, zi_0, zi_0, zi_0, zi_0, zi_0, zi_0, zi_0, zi_0, zi_0, zi_0, zi_534, zi_533], [(0, 14, 15, 0, (-1)), (5, 15, 14, 0, (-1))]), [(1, 14, 0), (1, 15, 0)], []), [(([(0, 0), zi_0, zi_0, zi_0, zi_0, zi_0, zi_0, zi_0, zi_0, zi_0, zi_0, zi_0, zi_0, zi_0, zi_534, zi_533, zi_532], []), [(1, 16, 0)], [])])
noncomputable def zc255 : List zCt := []
noncomputable def zu255 : List (Nat × zCn) := [(191, zn252), (191, zn253)]
set_option maxRecDepth 100000 in
theorem zk255 : z_conB zSPd zD (z_callC 14 zu255 (z_runC zSPd 14 zu255 zD zDF zTC 20000 0)) zDF zTC 20000 17179869184 2 2 0 0 4 zT191 zn255 none zc255 = true := by decide +kernel
/-- common31+ -/
noncomputable def zn256 : zCn := ((([(0, 0), zi_0, zi_0, zi_0, zi_0, zi_0, zi_0, zi_0, zi_0, zi_0, zi_0, zi_0, zi_0, zi_0, zi_535, zi_536], [(0, 15, 14, 0, (-1)), (6, 15, 14, 0, 1)]), [(1, 14, 0), (1, 15, 0)], []), [(([(0, 0), zi_0, zi_0, zi_0, zi_0, zi_0, zi_0, zi_0, zi_0, zi_0, zi_0, zi_0, zi_0, zi_0, zi_535, zi_536, zi_535], []), [(1, 16, 0)], [])])
noncomputable def zc256 : List zCt := []
noncomputable def zu256 : List (Nat × zCn) := [(191, zn254), (191, zn255)]
set_option maxRecDepth 100000 in
theorem zk256 : z_conB zSPd zD (z_callC 14 zu256 (z_runC zSPd 14 zu256 zD zDF zTC 20000 0)) zDF zTC 20000 17179869184 2 2 0 0 4 zT191 zn256 none zc256 = true := by decide +kernel
/-- common31- -/
noncomputable def zn257 : zCn := ((([(0, 0), zi_0, zi_0, zi_0, zi_0, zi_0, zi_0, zi_0, zi_0, zi_0, zi_0, zi_0, zi_0, zi_0, zi_537, zi_536], [(0, 14, 15, 0, (-1)), (5, 15, 14, 0, (-1))]), [(1, 14, 0), (1, 15, 0)], []), [(([(0, 0), zi_0, zi_0, zi_0, zi_0, zi_0, zi_0, zi_0, zi_0, zi_0, zi_0, zi_0, zi_0, zi_0, zi_537, zi_536, zi_535], []), [(1, 16, 0)], [])])
noncomputable def zc257 : List zCt := []
noncomputable def zu257 : List (Nat × zCn) := [(191, zn254), (191, zn255)]
set_option maxRecDepth 100000 in
theorem zk257 : z_conB zSPd zD (z_callC 14 zu257 (z_runC zSPd 14 zu257 zD zDF zTC 20000 0)) zDF zTC 20000 17179869184 2 2 0 0 4 zT191 zn257 none zc257 = true := by decide +kernel
/-- common32+ -/
noncomputable def zn258 : zCn := ((([(0, 0), zi_0, zi_0, zi_0, zi_0, zi_0, zi_0, zi_0, zi_0, zi_0, zi_0, zi_0, zi_0, zi_0, zi_538, zi_539], [(0, 15, 14, 0, (-1)), (6, 15, 14, 0, 1)]), [(1, 14, 0), (1, 15, 0)], []), [(([(0, 0), zi_0, zi_0, zi_0, zi_0, zi_0, zi_0, zi_0, zi_0, zi_0, zi_0, zi_0, zi_0, zi_0, zi_538, zi_539, zi_538], []), [(1, 16, 0)], [])])
noncomputable def zc258 : List zCt := []
noncomputable def zu258 : List (Nat × zCn) := [(191, zn256), (191, zn257)]
set_option maxRecDepth 100000 in
theorem zk258 : z_conB zSPd zD (z_callC 14 zu258 (z_runC zSPd 14 zu258 zD zDF zTC 20000 0)) zDF zTC 20000 17179869184 2 2 0 0 4 zT191 zn258 none zc258 = true := by decide +kernel
/-- common32- -/
noncomputable def zn259 : zCn := ((([(0, 0), zi_0, zi_0, zi_0, zi_0, zi_0, zi_0, zi_0, zi_0, zi_0, zi_0, zi_0, zi_0, zi_0, zi_540, zi_539], [(0, 14, 15, 0, (-1)), (5, 15, 14, 0, (-1))]), [(1, 14, 0), (1, 15, 0)], []), [(([(0, 0), zi_0, zi_0, zi_0, zi_0, zi_0, zi_0, zi_0, zi_0, zi_0, zi_0, zi_0, zi_0, zi_0, zi_540, zi_539, zi_538], []), [(1, 16, 0)], [])])
noncomputable def zc259 : List zCt := []
noncomputable def zu259 : List (Nat × zCn) := [(191, zn256), (191, zn257)]
set_option maxRecDepth 100000 in
theorem zk259 : z_conB zSPd zD (z_callC 14 zu259 (z_runC zSPd 14 zu259 zD zDF zTC 20000 0)) zDF zTC 20000 17179869184 2 2 0 0 4 zT191 zn259 none zc259 = true := by decide +kernel
/-- common33+ -/
noncomputable def zn260 : zCn := ((([(0, 0), zi_0, zi_0, zi_0, zi_0, zi_0, zi_0, zi_0, zi_0, zi_0, zi_0, zi_0, zi_0, zi_0, zi_541, zi_542], [(0, 15, 14, 0, (-1)), (6, 15, 14, 0, 1)]), [(1, 14, 0), (1, 15, 0)], []), [(([(0, 0), zi_0, zi_0, zi_0, zi_0, zi_0, zi_0, zi_0, zi_0, zi_0, zi_0, zi_0, zi_0, zi_0, zi_541, zi_542, zi_541], []), [(1, 16, 0)], [])])
noncomputable def zc260 : List zCt := []
noncomputable def zu260 : List (Nat × zCn) := [(191, zn258), (191, zn259)]
set_option maxRecDepth 100000 in
theorem zk260 : z_conB zSPd zD (z_callC 14 zu260 (z_runC zSPd 14 zu260 zD zDF zTC 20000 0)) zDF zTC 20000 17179869184 2 2 0 0 4 zT191 zn260 none zc260 = true := by decide +kernel
/-- common33- -/
noncomputable def zn261 : zCn := ((([(0, 0), zi_0, zi_0, zi_0, zi_0, zi_0, zi_0, zi_0, zi_0, zi_0, zi_0, zi_0, zi_0, zi_0, zi_543, zi_542], [(0, 14, 15, 0, (-1)), (5, 15, 14, 0, (-1))]), [(1, 14, 0), (1, 15, 0)], []), [(([(0, 0), zi_0, zi_0, zi_0, zi_0, zi_0, zi_0, zi_0, zi_0, zi_0, zi_0, zi_0, zi_0, zi_0, zi_543, zi_542, zi_541], []), [(1, 16, 0)], [])])
noncomputable def zc261 : List zCt := []
noncomputable def zu261 : List (Nat × zCn) := [(191, zn258), (191, zn259)]
set_option maxRecDepth 100000 in
theorem zk261 : z_conB zSPd zD (z_callC 14 zu261 (z_runC zSPd 14 zu261 zD zDF zTC 20000 0)) zDF zTC 20000 17179869184 2 2 0 0 4 zT191 zn261 none zc261 = true := by decide +kernel
/-- common34+ -/
noncomputable def zn262 : zCn := ((([(0, 0), zi_0, zi_0, zi_0, zi_0, zi_0, zi_0, zi_0, zi_0, zi_0, zi_0, zi_0, zi_0, zi_0, zi_544, zi_545], [(0, 15, 14, 0, (-1)), (6, 15, 14, 0, 1)]), [(1, 14, 0), (1, 15, 0)], []), [(([(0, 0), zi_0, zi_0, zi_0, zi_0, zi_0, zi_0, zi_0, zi_0, zi_0, zi_0, zi_0, zi_0, zi_0, zi_544, zi_545, zi_544], []), [(1, 16, 0)], [])])
noncomputable def zc262 : List zCt := []
noncomputable def zu262 : List (Nat × zCn) := [(191, zn260), (191, zn261)]
set_option maxRecDepth 100000 in
theorem zk262 : z_conB zSPd zD (z_callC 14 zu262 (z_runC zSPd 14 zu262 zD zDF zTC 20000 0)) zDF zTC 20000 17179869184 2 2 0 0 4 zT191 zn262 none zc262 = true := by decide +kernel
/-- common34- -/
noncomputable def zn263 : zCn := ((([(0, 0), zi_0, zi_0, zi_0, zi_0, zi_0, zi_0, zi_0, zi_0, zi_0, zi_0, zi_0, zi_0, zi_0, zi_546, zi_545], [(0, 14, 15, 0, (-1)), (5, 15, 14, 0, (-1))]), [(1, 14, 0), (1, 15, 0)], []), [(([(0, 0), zi_0, zi_0, zi_0, zi_0, zi_0, zi_0, zi_0, zi_0, zi_0, zi_0, zi_0, zi_0, zi_0, zi_546, zi_545, zi_544], []), [(1, 16, 0)], [])])
noncomputable def zc263 : List zCt := []
noncomputable def zu263 : List (Nat × zCn) := [(191, zn260), (191, zn261)]
set_option maxRecDepth 100000 in
theorem zk263 : z_conB zSPd zD (z_callC 14 zu263 (z_runC zSPd 14 zu263 zD zDF zTC 20000 0)) zDF zTC 20000 17179869184 2 2 0 0 4 zT191 zn263 none zc263 = true := by decide +kernel
/-- common35+ -/
noncomputable def zn264 : zCn := ((([(0, 0), zi_0, zi_0, zi_0, zi_0, zi_0, zi_0, zi_0, zi_0, zi_0, zi_0, zi_0, zi_0, zi_0, zi_547, zi_548], [(0, 15, 14, 0, (-1)), (6, 15, 14, 0, 1)]), [(1, 14, 0), (1, 15, 0)], []), [(([(0, 0), zi_0, zi_0, zi_0, zi_0, zi_0, zi_0, zi_0, zi_0, zi_0, zi_0, zi_0, zi_0, zi_0, zi_547, zi_548, zi_547], []), [(1, 16, 0)], [])])
noncomputable def zc264 : List zCt := []
noncomputable def zu264 : List (Nat × zCn) := [(191, zn262), (191, zn263)]
set_option maxRecDepth 100000 in
theorem zk264 : z_conB zSPd zD (z_callC 14 zu264 (z_runC zSPd 14 zu264 zD zDF zTC 20000 0)) zDF zTC 20000 17179869184 2 2 0 0 4 zT191 zn264 none zc264 = true := by decide +kernel
/-- common35- -/
noncomputable def zn265 : zCn := ((([(0, 0), zi_0, zi_0, zi_0, zi_0, zi_0, zi_0, zi_0, zi_0, zi_0, zi_0, zi_0, zi_0, zi_0, zi_549, zi_548], [(0, 14, 15, 0, (-1)), (5, 15, 14, 0, (-1))]), [(1, 14, 0), (1, 15, 0)], []), [(([(0, 0), zi_0, zi_0, zi_0, zi_0, zi_0, zi_0, zi_0, zi_0, zi_0, zi_0, zi_0, zi_0, zi_0, zi_549, zi_548, zi_547], []), [(1, 16, 0)], [])])
noncomputable def zc265 : List zCt := []
noncomputable def zu265 : List (Nat × zCn) := [(191, zn262), (191, zn263)]
set_option maxRecDepth 100000 in
theorem zk265 : z_conB zSPd zD (z_callC 14 zu265 (z_runC zSPd 14 zu265 zD zDF zTC 20000 0)) zDF zTC 20000 17179869184 2 2 0 0 4 zT191 zn265 none zc265 = true := by decide +kernel
/-- common36+ -/
noncomputable def zn266 : zCn := ((([(0, 0), zi_0, zi_0, zi_0, zi_0, zi_0, zi_0, zi_0, zi_0, zi_0, zi_0, zi_0, zi_0, zi_0, zi_550, zi_551], [(0, 15, 14, 0, (-1)), (6, 15, 14, 0, 1)]), [(1, 14, 0), (1, 15, 0)], []), [(([(0, 0), zi_0, zi_0, zi_0, zi_0, zi_0, zi_0, zi_0, zi_0, zi_0, zi_0, zi_0, zi_0, zi_0, zi_550, zi_551, zi_550], []), [(1, 16, 0)], [])])
noncomputable def zc266 : List zCt := []
noncomputable def zu266 : List (Nat × zCn) := [(191, zn264), (191, zn265)]
set_option maxRecDepth 100000 in
theorem zk266 : z_conB zSPd zD (z_callC 14 zu266 (z_runC zSPd 14 zu266 zD zDF zTC 20000 0)) zDF zTC 20000 17179869184 2 2 0 0 4 zT191 zn266 none zc266 = true := by decide +kernel
/-- common36- -/
noncomputable def zn267 : zCn := ((([(0, 0), zi_0, zi_0, zi_0, zi_0, zi_0, zi_0, zi_0, zi_0, zi_0, zi_0, zi_0, zi_0, zi_0, zi_552, zi_551], [(0, 14, 15, 0, (-1)), (5, 15, 14, 0, (-1))]), [(1, 14, 0), (1, 15, 0)], []), [(([(0, 0), zi_0, zi_0, zi_0, zi_0, zi_0, zi_0, zi_0, zi_0, zi_0, zi_0, zi_0, zi_0, zi_0, zi_552, zi_551, zi_550], []), [(1, 16, 0)], [])])
noncomputable def zc267 : List zCt := []
noncomputable def zu267 : List (Nat × zCn) := [(191, zn264), (191, zn265)]
set_option maxRecDepth 100000 in
theorem zk267 : z_conB zSPd zD (z_callC 14 zu267 (z_runC zSPd 14 zu267 zD zDF zTC 20000 0)) zDF zTC 20000 17179869184 2 2 0 0 4 zT191 zn267 none zc267 = true := by decide +kernel
/-- common37+ -/
noncomputable def zn268 : zCn := ((([(0, 0), zi_0, zi_0, zi_0, zi_0, zi_0, zi_0, zi_0, zi_0, zi_0, zi_0, zi_0, zi_0, zi_0, zi_553, zi_554], [(0, 15, 14, 0, (-1)), (6, 15, 14, 0, 1)]), [(1, 14, 0), (1, 15, 0)], []), [(([(0, 0), zi_0, zi_0, zi_0, zi_0, zi_0, zi_0, zi_0, zi_0, zi_0, zi_0, zi_0, zi_0, zi_0, zi_553, zi_554, zi_553], []), [(1, 16, 0)], [])])
noncomputable def zc268 : List zCt := []
noncomputable def zu268 : List (Nat × zCn) := [(191, zn266), (191, zn267)]
set_option maxRecDepth 100000 in
theorem zk268 : z_conB zSPd zD (z_callC 14 zu268 (z_runC zSPd 14 zu268 zD zDF zTC 20000 0)) zDF zTC 20000 17179869184 2 2 0 0 4 zT191 zn268 none zc268 = true := by decide +kernel
/-- common37- -/
noncomputable def zn269 : zCn := ((([(0, 0), zi_0, zi_0, zi_0, zi_0, zi_0, zi_0, zi_0, zi_0, zi_0, zi_0, zi_0, zi_0, zi_0, zi_555, zi_554], [(0, 14, 15, 0, (-1)), (5, 15, 14, 0, (-1))]), [(1, 14, 0), (1, 15, 0)], []), [(([(0, 0), zi_0, zi_0, zi_0, zi_0, zi_0, zi_0, zi_0, zi_0, zi_0, zi_0, zi_0, zi_0, zi_0, zi_555, zi_554, zi_553], []), [(1, 16, 0)], [])])
noncomputable def zc269 : List zCt := []
noncomputable def zu269 : List (Nat × zCn) := [(191, zn266), (191, zn267)]
set_option maxRecDepth 100000 in
theorem zk269 : z_conB zSPd zD (z_callC 14 zu269 (z_runC zSPd 14 zu269 zD zDF zTC 20000 0)) zDF zTC 20000 17179869184 2 2 0 0 4 zT191 zn269 none zc269 = true := by decide +kernel
/-- common38+ -/
noncomputable def zn270 : zCn := ((([(0, 0), zi_0, zi_0, zi_0, zi_0, zi_0, zi_0, zi_0, zi_0, zi_0, zi_0, zi_0, zi_0, zi_0, zi_556, zi_557], [(0, 15, 14, 0, (-1)), (6, 15, 14, 0, 1)]), [(1, 14, 0), (1, 15, 0)], []), [(([(0, 0), zi_0, zi_0, zi_0, zi_0, zi_0, zi_0, zi_0, zi_0, zi_0, zi_0, zi_0, zi_0, zi_0, zi_556, zi_557, zi_556], []), [(1, 16, 0)], [])])
noncomputable def zc270 : List zCt := []
noncomputable def zu270 : List (Nat × zCn) := [(191, zn268), (191, zn269)]
set_option maxRecDepth 100000 in
theorem zk270 : z_conB zSPd zD (z_callC 14 zu270 (z_runC zSPd 14 zu270 zD zDF zTC 20000 0)) zDF zTC 20000 17179869184 2 2 0 0 4 zT191 zn270 none zc270 = true := by decide +kernel
/-- common38- -/
noncomputable def zn271 : zCn := ((([(0, 0), zi_0, zi_0, zi_0, zi_0, zi_0, zi_0, zi_0, zi_0, zi_0, zi_0, zi_0, zi_0, zi_0, zi_558, zi_557], [(0, 14, 15, 0, (-1)), (5, 15, 14, 0, (-1))]), [(1, 14, 0), (1, 15, 0)], []), [(([(0, 0), zi_0, zi_0, zi_0, zi_0, zi_0, zi_0, zi_0, zi_0, zi_0, zi_0, zi_0, zi_0, zi_0, zi_558, zi_557, zi_556], []), [(1, 16, 0)], [])])
noncomputable def zc271 : List zCt := []
noncomputable def zu271 : List (Nat × zCn) := [(191, zn268), (191, zn269)]
set_option maxRecDepth 100000 in
theorem zk271 : z_conB zSPd zD (z_callC 14 zu271 (z_runC zSPd 14 zu271 zD zDF zTC 20000 0)) zDF zTC 20000 17179869184 2 2 0 0 4 zT191 zn271 none zc271 = true := by decide +kernel
/-- common39+ -/
noncomputable def zn272 : zCn := ((([(0, 0), zi_0, zi_0, zi_0, zi_0, zi_0, zi_0, zi_0, zi_0, zi_0, zi_0, zi_0, zi_0, zi_0, zi_559, zi_560], [(0, 15, 14, 0, (-1)), (6, 15, 14, 0, 1)]), [(1, 14, 0), (1, 15, 0)], []), [(([(0, 0), zi_0, zi_0, zi_0, zi_0, zi_0, zi_0, zi_0, zi_0, zi_0, zi_0, zi_0, zi_0, zi_0, zi_559, zi_560, zi_559], []), [(1, 16, 0)], [])])
noncomputable def zc272 : List zCt := []
noncomputable def zu272 : List (Nat × zCn) := [(191, zn270), (191, zn271)]
set_option maxRecDepth 100000 in
theorem zk272 : z_conB zSPd zD (z_callC 14 zu272 (z_runC zSPd 14 zu272 zD zDF zTC 20000 0)) zDF zTC 20000 17179869184 2 2 0 0 4 zT191 zn272 none zc272 = true := by decide +kernel
/-- common39- -/
noncomputable def zn273 : zCn := ((([(0, 0), zi_0, zi_0, zi_0, zi_0, zi_0, zi_0, zi_0, zi_0, zi_0, zi_0, zi_0, zi_0, zi_0, zi_561, zi_560], [(0, 14, 15, 0, (-1)), (5, 15, 14, 0, (-1))]), [(1, 14, 0), (1, 15, 0)], []), [(([(0, 0), zi_0, zi_0, zi_0, zi_0, zi_0, zi_0, zi_0, zi_0, zi_0, zi_0, zi_0, zi_0, zi_0, zi_561, zi_560, zi_559], []), [(1, 16, 0)], [])])
noncomputable def zc273 : List zCt := []
noncomputable def zu273 : List (Nat × zCn) := [(191, zn270), (191, zn271)]
set_option maxRecDepth 100000 in
theorem zk273 : z_conB zSPd zD (z_callC 14 zu273 (z_runC zSPd 14 zu273 zD zDF zTC 20000 0)) zDF zTC 20000 17179869184 2 2 0 0 4 zT191 zn273 none zc273 = true := by decide +kernel
/-- common40+ -/
noncomputable def zn274 : zCn := ((([(0, 0), zi_0, zi_0, zi_0, zi_0, zi_0, zi_0, zi_0, zi_0, zi_0, zi_0, zi_0, zi_0, zi_0, zi_562, zi_563], [(0, 15, 14, 0, (-1)), (6, 15, 14, 0, 1)]), [(1, 14, 0), (1, 15, 0)], []), [(([(0, 0), zi_0, zi_0, zi_0, zi_0, zi_0, zi_0, zi_0, zi_0, zi_0, zi_0, zi_0, zi_0, zi_0, zi_562, zi_563, zi_562], []), [(1, 16, 0)], [])])
noncomputable def zc274 : List zCt := []
noncomputable def zu274 : List (Nat × zCn) := [(191, zn272), (191, zn273)]
set_option maxRecDepth 100000 in
theorem zk274 : z_conB zSPd zD (z_callC 14 zu274 (z_runC zSPd 14 zu274 zD zDF zTC 20000 0)) zDF zTC 20000 17179869184 2 2 0 0 4 zT191 zn274 none zc274 = true := by decide +kernel
/-- common40- -/
noncomputable def zn275 : zCn := ((([(0, 0), zi_0, zi_0, zi_0, zi_0, zi_0, zi_0, zi_0, zi_0, zi_0, zi_0, zi_0, zi_0, zi_0, zi_564, zi_563], [(0, 14, 15, 0, (-1)), (5, 15, 14, 0, (-1))]), [(1, 14, 0), (1, 15, 0)], []), [(([(0, 0), zi_0, zi_0, zi_0, zi_0, zi_0, zi_0, zi_0, zi_0, zi_0, zi_0, zi_0, zi_0, zi_0, zi_564, zi_563, zi_562], []), [(1, 16, 0)], [])])
noncomputable def zc275 : List zCt := []
noncomputable def zu275 : List (Nat × zCn) := [(191, zn272), (191, zn273)]
set_option maxRecDepth 100000 in
theorem zk275 : z_conB zSPd zD (z_callC 14 zu275 (z_runC zSPd 14 zu275 zD zDF zTC 20000 0)) zDF zTC 20000 17179869184 2 2 0 0 4 zT191 zn275 none zc275 = true := by decide +kernel
/-- common41+ -/
noncomputable def zn276 : zCn := ((([(0, 0), zi_0, zi_0, zi_0, zi_0, zi_0, zi_0, zi_0, zi_0, zi_0, zi_0, zi_0, zi_0, zi_0, zi_565, zi_566], [(0, 15, 14, 0, (-1)), (6, 15, 14, 0, 1)]), [(1, 14, 0), (1, 15, 0)], []), [(([(0, 0), zi_0, zi_0, zi_0, zi_0, zi_0, zi_0, zi_0, zi_0, zi_0, zi_0, zi_0, zi_0, zi_0, zi_565, zi_566, zi_565], []), [(1, 16, 0)], [])])
noncomputable def zc276 : List zCt := []
noncomputable def zu276 : List (Nat × zCn) := [(191, zn274), (191, zn275)]
set_option maxRecDepth 100000 in
theorem zk276 : z_conB zSPd zD (z_callC 14 zu276 (z_runC zSPd 14 zu276 zD zDF zTC 20000 0)) zDF zTC 20000 17179869184 2 2 0 0 4 zT191 zn276 none zc276 = true := by decide +kernel
/-- common41- -/
noncomputable def zn277 : zCn := ((([(0, 0), zi_0, zi_0, zi_0, zi_0, zi_0, zi_0, zi_0, zi_0, zi_0, zi_0, zi_0, zi_0, zi_0, zi_567, zi_566], [(0, 14, 15, 0, (-1)), (5, 15, 14, 0, (-1))]), [(1, 14, 0), (1, 15, 0)], []), [(([(0, 0), zi_0, zi_0, zi_0, zi_0, zi_0, zi_0, zi_0, zi_0, zi_0, zi_0, zi_0, zi_0, zi_0, zi_567, zi_566, zi_565], []), [(1, 16, 0)], [])])
noncomputable def zc277 : List zCt := []
noncomputable def zu277 : List (Nat × zCn) := [(191, zn274), (191, zn275)]
set_option maxRecDepth 100000 in
theorem zk277 : z_conB zSPd zD (z_callC 14 zu277 (z_runC zSPd 14 zu277 zD zDF zTC 20000 0)) zDF zTC 20000 17179869184 2 2 0 0 4 zT191 zn277 none zc277 = true := by decide +kernel
/-- common42+ -/
noncomputable def zn278 : zCn := ((([(0, 0), zi_0, zi_0, zi_0, zi_0, zi_0, zi_0, zi_0, zi_0, zi_0, zi_0, zi_0, zi_0, zi_0, zi_568, zi_569], [(0, 15, 14, 0, (-1)), (6, 15, 14, 0, 1)]), [(1, 14, 0), (1, 15, 0)], []), [(([(0, 0), zi_0, zi_0, zi_0, zi_0, zi_0, zi_0, zi_0, zi_0, zi_0, zi_0, zi_0, zi_0, zi_0, zi_568, zi_569, zi_568], []), [(1, 16, 0)], [])])
noncomputable def zc278 : List zCt := []
noncomputable def zu278 : List (Nat × zCn) := [(191, zn276), (191, zn277)]
set_option maxRecDepth 100000 in
theorem zk278 : z_conB zSPd zD (z_callC 14 zu278 (z_runC zSPd 14 zu278 zD zDF zTC 20000 0)) zDF zTC 20000 17179869184 2 2 0 0 4 zT191 zn278 none zc278 = true := by decide +kernel
/-- common42- -/
noncomputable def zn279 : zCn := ((([(0, 0), zi_0, zi_0, zi_0, zi_0, zi_0, zi_0, zi_0, zi_0, zi_0, zi_0, zi_0, zi_0, zi_0, zi_570, zi_569], [(0, 14, 15, 0, (-1)), (5, 15, 14, 0, (-1))]), [(1, 14, 0), (1, 15, 0)], []), [(([(0, 0), zi_0, zi_0, zi_0, zi_0, zi_0, zi_0, zi_0, zi_0, zi_0, zi_0, zi_0, zi_0, zi_0, zi_570, zi_569, zi_568], []), [(1, 16, 0)], [])])
noncomputable def zc279 : List zCt := []
noncomputable def zu279 : List (Nat × zCn) := [(191, zn276), (191, zn277)]
set_option maxRecDepth 100000 in
theorem zk279 : z_conB zSPd zD (z_callC 14 zu279 (z_runC zSPd 14 zu279 zD zDF zTC 20000 0)) zDF zTC 20000 17179869184 2 2 0 0 4 zT191 zn279 none zc279 = true := by decide +kernel
/-- common43+ -/
noncomputable def zn280 : zCn := ((([(0, 0), zi_0, zi_0, zi_0, zi_0, zi_0, zi_0, zi_0, zi_0, zi_0, zi_0, zi_0, zi_0, zi_0, zi_571, zi_572], [(0, 15, 14, 0, (-1)), (6, 15, 14, 0, 1)]), [(1, 14, 0), (1, 15, 0)], []), [(([(0, 0), zi_0, zi_0, zi_0, zi_0, zi_0, zi_0, zi_0, zi_0, zi_0, zi_0, zi_0, zi_0, zi_0, zi_571, zi_572, zi_571], []), [(1, 16, 0)], [])])
noncomputable def zc280 : List zCt := []
noncomputable def zu280 : List (Nat × zCn) := [(191, zn278), (191, zn279)]
set_option maxRecDepth 100000 in
theorem zk280 : z_conB zSPd zD (z_callC 14 zu280 (z_runC zSPd 14 zu280 zD zDF zTC 20000 0)) zDF zTC 20000 17179869184 2 2 0 0 4 zT191 zn280 none zc280 = true := by decide +kernel
/-- common43- -/
noncomputable def zn281 : zCn := ((([(0, 0), zi_0, zi_0, zi_0, zi_0, zi_0, zi_0, zi_0, zi_0, zi_0, zi_0, zi_0, zi_0, zi_0, zi_573, zi_572], [(0, 14, 15, 0, (-1)), (5, 15, 14, 0, (-1))]), [(1, 14, 0), (1, 15, 0)], []), [(([(0, 0), zi_0, zi_0, zi_0, zi_0, zi_0, zi_0, zi_0, zi_0, zi_0, zi_0, zi_0, zi_0, zi_0, zi_573, zi_572, zi_571], []), [(1, 16, 0)], [])])
noncomputable def zc281 : List zCt := []
noncomputable def zu281 : List (Nat × zCn) := [(191, zn278), (191, zn279)]
set_option maxRecDepth 100000 in
theorem zk281 : z_conB zSPd zD (z_callC 14 zu281 (z_runC zSPd 14 zu281 zD zDF zTC 20000 0)) zDF zTC 20000 17179869184 2 2 0 0 4 zT191 zn281 none zc281 = true := by decide +kernel
/-- common44+ -/
noncomputable def zn282 : zCn := ((([(0, 0), zi_0, zi_0, zi_0, zi_0, zi_0, zi_0, zi_0, zi_0, zi_0, zi_0, zi_0, zi_0, zi_0, zi_574, zi_575], [(0, 15, 14, 0, (-1)), (6, 15, 14, 0, 1)]), [(1, 14, 0), (1, 15, 0)], []), [(([(0, 0), zi_0, zi_0, zi_0, zi_0, zi_0, zi_0, zi_0, zi_0, zi_0, zi_0, zi_0, zi_0, zi_0, zi_574, zi_575, zi_574], []), [(1, 16, 0)], [])])
noncomputable def zc282 : List zCt := []
noncomputable def zu282 : List (Nat × zCn) := [(191, zn280), (191, zn281)]
set_option maxRecDepth 100000 in
theorem zk282 : z_conB zSPd zD (z_callC 14 zu282 (z_runC zSPd 14 zu282 zD zDF zTC 20000 0)) zDF zTC 20000 17179869184 2 2 0 0 4 zT191 zn282 none zc282 = true := by decide +kernel
/-- common44- -/
noncomputable def zn283 : zCn := ((([(0, 0), zi_0, zi_0, zi_0, zi_0, zi_0, zi_0, zi_0, zi_0, zi_0, zi_0, zi_0, zi_0, zi_0, zi_576, zi_575], [(0, 14, 15, 0, (-1)), (5, 15, 14, 0, (-1))]), [(1, 14, 0), (1, 15, 0)], []), [(([(0, 0), zi_0, zi_0, zi_0, zi_0, zi_0, zi_0, zi_0, zi_0, zi_0, zi_0, zi_0, zi_0, zi_0, zi_576, zi_575, zi_574], []), [(1, 16, 0)], [])])
noncomputable def zc283 : List zCt := []
noncomputable def zu283 : List (Nat × zCn) := [(191, zn280), (191, zn281)]
set_option maxRecDepth 100000 in
theorem zk283 : z_conB zSPd zD (z_callC 14 zu283 (z_runC zSPd 14 zu283 zD zDF zTC 20000 0)) zDF zTC 20000 17179869184 2 2 0 0 4 zT191 zn283 none zc283 = true := by decide +kernel
/-- common45+ -/
noncomputable def zn284 : zCn := ((([(0, 0), zi_0, zi_0, zi_0, zi_0, zi_0, zi_0, zi_0, zi_0, zi_0, zi_0, zi_0, zi_0, zi_0, zi_577, zi_578], [(0, 15, 14, 0, (-1)), (6, 15, 14, 0, 1)]), [(1, 14, 0), (1, 15, 0)], []), [(([(0, 0), zi_0, zi_0, zi_0, zi_0, zi_0, zi_0, zi_0, zi_0, zi_0, zi_0, zi_0, zi_0, zi_0, zi_577, zi_578, zi_577], []), [(1, 16, 0)], [])])
noncomputable def zc284 : List zCt := []
noncomputable def zu284 : List (Nat × zCn) := [(191, zn282), (191, zn283)]
set_option maxRecDepth 100000 in
theorem zk284 : z_conB zSPd zD (z_callC 14 zu284 (z_runC zSPd 14 zu284 zD zDF zTC 20000 0)) zDF zTC 20000 17179869184 2 2 0 0 4 zT191 zn284 none zc284 = true := by decide +kernel
/-- common45- -/
noncomputable def zn285 : zCn := ((([(0, 0), zi_0, zi_0, zi_0, zi_0, zi_0, zi_0, zi_0, zi_0, zi_0, zi_0, zi_0, zi_0, zi_0, zi_579, zi_578], [(0, 14, 15, 0, (-1)), (5, 15, 14, 0, (-1))]), [(1, 14, 0), (1, 15, 0)], []), [(([(0, 0), zi_0, zi_0, zi_0, zi_0, zi_0, zi_0, zi_0, zi_0, zi_0, zi_0, zi_0, zi_0, zi_0, zi_579, zi_578, zi_577], []), [(1, 16, 0)], [])])
noncomputable def zc285 : List zCt := []
noncomputable def zu285 : List (Nat × zCn) := [(191, zn282), (191, zn283)]
set_option maxRecDepth 100000 in
theorem zk285 : z_conB zSPd zD (z_callC 14 zu285 (z_runC zSPd 14 zu285 zD zDF zTC 20000 0)) zDF zTC 20000 17179869184 2 2 0 0 4 zT191 zn285 none zc285 = true := by decide +kernel
/-- common46+ -/
noncomputable def zn286 : zCn := ((([(0, 0), zi_0, zi_0, zi_0, zi_0, zi_0, zi_0, zi_0, zi_0, zi_0, zi_0, zi_0, zi_0, zi_0, zi_580, zi_581], [(0, 15, 14, 0, (-1)), (6, 15, 14, 0, 1)]), [(1, 14, 0), (1, 15, 0)], []), [(([(0, 0), zi_0, zi_0, zi_0, zi_0, zi_0, zi_0, zi_0, zi_0, zi_0, zi_0, zi_0, zi_0, zi_0, zi_580, zi_581, zi_580], []), [(1, 16, 0)], [])])
noncomputable def zc286 : List zCt := []
noncomputable def zu286 : List (Nat × zCn) := [(191, zn284), (191, zn285)]
set_option maxRecDepth 100000 in
theorem zk286 : z_conB zSPd zD (z_callC 14 zu286 (z_runC zSPd 14 zu286 zD zDF zTC 20000 0)) zDF zTC 20000 17179869184 2 2 0 0 4 zT191 zn286 none zc286 = true := by decide +kernel
/-- common46- -/
noncomputable def zn287 : zCn := ((([(0, 0), zi_0, zi_0, zi_0, zi_0, zi_0, zi_0, zi_0, zi_0, zi_0, zi_0, zi_0, zi_0, zi_0, zi_582, zi_581], [(0, 14, 15, 0, (-1)), (5, 15, 14, 0, (-1))]), [(1, 14, 0), (1, 15, 0)], []), [(([(0, 0), zi_0, zi_0, zi_0, zi_0, zi_0, zi_0, zi_0, zi_0, zi_0, zi_0, zi_0, zi_0, zi_0, zi_582, zi_581, zi_580], []), [(1, 16, 0)], [])])
noncomputable def zc287 : List zCt := []
noncomputable def zu287 : List (Nat × zCn) := [(191, zn284), (191, zn285)]
set_option maxRecDepth 100000 in
theorem zk287 : z_conB zSPd zD (z_callC 14 zu287 (z_runC zSPd 14 zu287 zD zDF zTC 20000 0)) zDF zTC 20000 17179869184 2 2 0 0 4 zT191 zn287 none zc287 = true := by decide +kernel
/-- common47+ -/
noncomputable def zn288 : zCn := ((([(0, 0), zi_0, zi_0, zi_0, zi_0, zi_0, zi_0, zi_0, zi_0, zi_0, zi_0, zi_0, zi_0, zi_0, zi_583, zi_584], [(0, 15, 14, 0, (-1)), (6, 15, 14, 0, 1)]), [(1, 14, 0), (1, 15, 0)], []), [(([(0, 0), zi_0, zi_0, zi_0, zi_0, zi_0, zi_0, zi_0, zi_0, zi_0, zi_0, zi_0, zi_0, zi_0, zi_583, zi_584, zi_583], []), [(1, 16, 0)], [])])
noncomputable def zc288 : List zCt := []
noncomputable def zu288 : List (Nat × zCn) := [(191, zn286), (191, zn287)]
set_option maxRecDepth 100000 in
theorem zk288 : z_conB zSPd zD (z_callC 14 zu288 (z_runC zSPd 14 zu288 zD zDF zTC 20000 0)) zDF zTC 20000 17179869184 2 2 0 0 4 zT191 zn288 none zc288 = true := by decide +kernel
/-- common47- -/
noncomputable def zn289 : zCn := ((([(0, 0), zi_0, zi_0, zi_0, zi_0, zi_0, zi_0, zi_0, zi_0, zi_0, zi_0, zi_0, zi_0, zi_0, zi_585, zi_584], [(0, 14, 15, 0, (-1)), (5, 15, 14, 0, (-1))]), [(1, 14, 0), (1, 15, 0)], []), [(([(0, 0), zi_0, zi_0, zi_0, zi_0, zi_0, zi_0, zi_0, zi_0, zi_0, zi_0, zi_0, zi_0, zi_0, zi_585, zi_584, zi_583], []), [(1, 16, 0)], [])])
noncomputable def zc289 : List zCt := []
noncomputable def zu289 : List (Nat × zCn) := [(191, zn286), (191, zn287)]
set_option maxRecDepth 100000 in
theorem zk289 : z_conB zSPd zD (z_callC 14 zu289 (z_runC zSPd 14 zu289 zD zDF zTC 20000 0)) zDF zTC 20000 17179869184 2 2 0 0 4 zT191 zn289 none zc289 = true := by decide +kernel
/-- common48+ -/
noncomputable def zn290 : zCn := ((([(0, 0), zi_0, zi_0, zi_0, zi_0, zi_0, zi_0, zi_0, zi_0, zi_0, zi_0, zi_0, zi_0, zi_0, zi_586, zi_587], [(0, 15, 14, 0, (-1)), (6, 15, 14, 0, 1)]), [(1, 14, 0), (1, 15, 0)], []), [(([(0, 0), zi_0, zi_0, zi_0, zi_0, zi_0, zi_0, zi_0, zi_0, zi_0, zi_0, zi_0, zi_0, zi_0, zi_586, zi_587, zi_586], []), [(1, 16, 0)], [])])
noncomputable def zc290 : List zCt := []
noncomputable def zu290 : List (Nat × zCn) := [(191, zn288), (191, zn289)]
set_option maxRecDepth 100000 in
theorem zk290 : z_conB zSPd zD (z_callC 14 zu290 (z_runC zSPd 14 zu290 zD zDF zTC 20000 0)) zDF zTC 20000 17179869184 2 2 0 0 4 zT191 zn290 none zc290 = true := by decide +kernel
/-- common48- -/
noncomputable def zn291 : zCn := ((([(0, 0), zi_0, zi_0, zi_0, zi_0, zi_0, zi_0, zi_0, zi_0, zi_0, zi_0, zi_0, zi_0, zi_0, zi_588, zi_587], [(0, 14, 15, 0, (-1)), (5, 15, 14, 0, (-1))]), [(1, 14, 0), (1, 15, 0)], []), [(([(0, 0), zi_0, zi_0, zi_0, zi_0, zi_0, zi_0, zi_0, zi_0, zi_0, zi_0, zi_0, zi_0, zi_0, zi_588, zi_587, zi_586], []), [(1, 16, 0)], [])])
noncomputable def zc291 : List zCt := []
noncomputable def zu291 : List (Nat × zCn) := [(191, zn288), (191, zn289)]
set_option maxRecDepth 100000 in
theorem zk291 : z_conB zSPd zD (z_callC 14 zu291 (z_runC zSPd 14 zu291 zD zDF zTC 20000 0)) zDF zTC 20000 17179869184 2 2 0 0 4 zT191 zn291 none zc291 = true := by decide +kernel
/-- common49+ -/
noncomputable def zn292 : zCn := ((([(0, 0), zi_0, zi_0, zi_0, zi_0, zi_0, zi_0, zi_0, zi_0, zi_0, zi_0, zi_0, zi_0, zi_0, zi_589, zi_590], [(0, 15, 14, 0, (-1)), (6, 15, 14, 0, 1)]), [(1, 14, 0), (1, 15, 0)], []), [(([(0, 0), zi_0, zi_0, zi_0, zi_0, zi_0, zi_0, zi_0, zi_0, zi_0, zi_0, zi_0, zi_0, zi_0, zi_589, zi_590, zi_589], []), [(1, 16, 0)], [])])
noncomputable def zc292 : List zCt := []
noncomputable def zu292 : List (Nat × zCn) := [(191, zn290), (191, zn291)]
set_option maxRecDepth 100000 in
theorem zk292 : z_conB zSPd zD (z_callC 14 zu292 (z_runC zSPd 14 zu292 zD zDF zTC 20000 0)) zDF zTC 20000 17179869184 2 2 0 0 4 zT191 zn292 none zc292 = true := by decide +kernel
/-- common49- -/
noncomputable def zn293 : zCn := ((([(0, 0), zi_0, zi_0, zi_0, zi_0, zi_0, zi_0, zi_0, zi_0, zi_0, zi_0, zi_0, zi_0, zi_0, zi_591, zi_590], [(0, 14, 15, 0, (-1)), (5, 15, 14, 0, (-1))]), [(1, 14, 0), (1, 15, 0)], []), [(([(0, 0), zi_0, zi_0, zi_0, zi_0, zi_0, zi_0, zi_0, zi_0, zi_0, zi_0, zi_0, zi_0, zi_0, zi_591, zi_590, zi_589], []), [(1, 16, 0)], [])])
noncomputable def zc293 : List zCt := []
noncomputable def zu293 : List (Nat × zCn) := [(191, zn290), (191, zn291)]
set_option maxRecDepth 100000 in
theorem zk293 : z_conB zSPd zD (z_callC 14 zu293 (z_runC zSPd 14 zu293 zD zDF zTC 20000 0)) zDF zTC 20000 17179869184 2 2 0 0 4 zT191 zn293 none zc293 = true := by decide +kernel
/-- common50+ -/
noncomputable def zn294 : zCn := ((([(0, 0), zi_0, zi_0, zi_0, zi_0, zi_0, zi_0, zi_0, zi_0, zi_0, zi_0, zi_0, zi_0, zi_0, zi_327, zi_592], [(0, 15, 14, 0, (-1)), (6, 15, 14, 0, 1)]), [(1, 14, 0), (1, 15, 0)], []), [(([(0, 0), zi_0, zi_0, zi_0, zi_0, zi_0, zi_0, zi_0, zi_0, zi_0, zi_0, zi_0, zi_0, zi_0, zi_327, zi_592, zi_327], []), [(1, 16, 0)], [])])
noncomputable def zc294 : List zCt := []
noncomputable def zu294 : List (Nat × zCn) := [(191, zn292), (191, zn293)]
set_option maxRecDepth 100000 in
theorem zk294 : z_conB zSPd zD (z_callC 14 zu294 (z_runC zSPd 14 zu294 zD zDF zTC 20000 0)) zDF zTC 20000 17179869184 2 2 0 0 4 zT191 zn294 none zc294 = true := by decide +kernel
/-- common50- -/
noncomputable def zn295 : zCn := ((([(0, 0), zi_0, zi_0, zi_0, zi_0, zi_0, zi_0, zi_0, zi_0, zi_0, zi_0, zi_0, zi_0, zi_0, zi_593, zi_592], [(0, 14, 15, 0, (-1)), (5, 15, 14, 0, (-1))]), [(1, 14, 0), (1, 15, 0)], []), [(([(0, 0), zi_0, zi_0, zi_0, zi_0, zi_0, zi_0, zi_0, zi_0, zi_0, zi_0, zi_0, zi_0, zi_0, zi_593, zi_592, zi_327], []), [(1, 16, 0)], [])])
noncomputable def zc295 : List zCt := []
noncomputable def zu295 : List (Nat × zCn) := [(191, zn292), (191, zn293)]
set_option maxRecDepth 100000 in
theorem zk295 : z_conB zSPd zD (z_callC 14 zu295 (z_runC zSPd 14 zu295 zD zDF zTC 20000 0)) zDF zTC 20000 17179869184 2 2 0 0 4 zT191 zn295 none zc295 = true := by decide +kernel
/-- m.share -/
noncomputable def zn296 : zCn := (((zjl_594, []), [(2, 0, 0), (0, 14, 0), (0, 15, 0)], [zcl287, zcl288, zcl289, zcl259, zcl37, zcl72, zcl290, zcl291, zcl262, zcl263, zcl264, zcl265, zcl292, zcl12, zcl12, zcl12, zcl13, zcl13, zcl14, zcl42, zcl42, zcl267, zcl49]), [((zjl_595, []), [(0, 107, 0)], [zcl596, zcl288, zcl289, zcl259, zcl37, zcl72, zcl290, zcl291, zcl262, zcl263, zcl264, zcl265, zcl292, zcl12, zcl12, zcl12, zcl13, zcl13, zcl14, zcl42, zcl42, zcl267, zcl49])])
noncomputable def zc296 : List zCt := [(30, (([(0, 0), zi_0, zi_0, zi_0, zi_0, zi_0, zi_0, zi_0, zi_0, zi_0, zi_0, zi_0, zi_0, zi_0, (0, 6), (0, 1), zi_2, zi_69, zi_69, (0, 4), zi_69, zi_2, zi_197, (0, 3), zi_2, (0, 3), zi_2, zi_2, zi_2, zi_2, zi_2, zi_3, zi_2, zi_2, zi_2, zi_2, zi_2, zi_2, zi_2, zi_2, zi_2, zi_61, zi_61, zi_61, zi_61, zi_33, zi_33, zi_33, zi_33, zi_2, zi_2, zi_2, zi_2, zi_2, zi_1, (0, 3), zi_4, zi_5, zi_6, (1, 7), zi_7, (0, 8), zi_8, zi_3, zi_1, (0, 3), zi_4, zi_5, zi_6, (0, 7), zi_7, (0, 8), zi_8, zi_3, zi_1, (0, 3), zi_4, zi_5, zi_6, (0, 7), zi_7, (0, 8), zi_8, zi_3, zi_1, (0, 3), zi_4, zi_5, zi_6, (0, 7), zi_7, (0, 8), zi_8, zi_3, zi_1, (0, 3), zi_4, zi_5, zi_6, (0, 7), zi_7, (0, 8), zi_8, zi_3, (0, 1), (0, 1), (0, 1), zi_2, zi_199, zi_2, zi_2, zi_2, zi_2, zi_3], []), [(0, (2, 0, 0)), (1, (0, 14, 0)), (2, (0, 15, 0)), (3, (0, 107, 0)), (4, (0, 108, 0))], [], [zcl597, zcl288, zcl289, zcl259, zcl37, zcl72, zcl290, zcl291, zcl262, zcl263, zcl264, zcl265, zcl292, zcl12, zcl12, zcl12, zcl13, zcl13, zcl14, zcl42, zcl42, zcl267, zcl49], 0, 0), [(99970, 0), (128, 108)])]
noncomputable def zu296 : List (Nat × zCn) := [(175, zn150), (177, zn151), (185, zn156), (188, zn160), (188, zn161), (188, zn162), (188, zn163), (188, zn164), (188, zn165), (188, zn166), (190, zn186), (190, zn187), (190, zn188), (190, zn189), (190, zn190), (190, zn191), (190, zn192), (191, zn238)]
set_option maxRecDepth 100000 in
theorem zk296 : z_conB zSPd zD (z_callC 14 zu296 (z_runC zSPd 14 zu296 zD zDF zTC 20000 2)) zDF zTC 20000 17179869184 2 0 0 0 6 zT192 zn296 none zc296 = true := by decide +kernel
/-- m.weightOf1 -/
noncomputable def zn297 : zCn := (((zjl_312, []), [(2, 0, 0), (0, 14, 0), (0, 0, 1)], [zcl256, zcl257, zcl258, zcl259, zcl37, zcl72, zcl260, zcl261, zcl262, zcl263, zcl264, zcl265, zcl266, zcl12, zcl12, zcl12, zcl13, zcl13, zcl14, zcl42, zcl42, zcl267, zcl49]), [(([(0, 0), zi_0, zi_0, zi_0, zi_0, zi_0, zi_0, zi_0, zi_0, zi_0, zi_0, zi_0, zi_0, zi_0, zi_3, zi_2, zi_69, zi_69, (0, 4), zi_69, zi_2, zi_197, (0, 3), zi_2, (0, 3), zi_2, zi_2, zi_2, zi_2, zi_2, zi_3, zi_2, zi_2, zi_2, zi_2, zi_2, zi_2, zi_2, zi_2, zi_2, zi_61, zi_61, zi_61, zi_61, zi_33, zi_33, zi_33, zi_33, zi_2, zi_2, zi_2, zi_2, zi_2, zi_1, (0, 3), zi_4, zi_5, zi_6, (0, 7), zi_7, (0, 8), zi_8, zi_3, zi_1, (0, 3), zi_4, zi_5, zi_6, (0, 7), zi_7, (0, 8), zi_8, zi_3, zi_1, (0, 3), zi_4, zi_5, zi_6, (0, 7), zi_7, (0, 8), zi_8, zi_3, zi_1, (0, 3), zi_4, zi_5, zi_6, (0, 7), zi_7, (0, 8), zi_8, zi_3, zi_1, (0, 3), zi_4, zi_5, zi_6, (0, 7), zi_7, (0, 8), zi_8, zi_3, (0, 1), (0, 1), (0, 1), zi_197, (0, 3)], []), [(1, 106, 0)], [zcl598, zcl257, zcl258, zcl259, zcl37, zcl72, zcl260, zcl261, zcl262, zcl263, zcl264, zcl265, zcl266, zcl12, zcl12, zcl12, zcl13, zcl13, zcl14, zcl42, zcl42, zcl267, zcl49])])
noncomputable def zc297 : List zCt := [(9, (([(0, 0), zi_0, zi_0, zi_0, zi_0, zi_0, zi_0, zi_0, zi_0, zi_0, zi_0, zi_0, zi_0, zi_0, zi_3, zi_2, zi_69, zi_69, (0, 4), zi_69, zi_2, zi_197, (0, 3), zi_2, (0, 3), zi_2, zi_2, zi_2, zi_2, zi_2, zi_3, zi_2, zi_2, zi_2, zi_2, zi_2, zi_2, zi_2, zi_2, zi_2, zi_61, zi_61, zi_61, zi_61, zi_33, zi_33, zi_33, zi_33, zi_2, zi_2, zi_2, zi_2, zi_2, zi_1, (0, 3), zi_4, zi_5, zi_6, (0, 7), zi_7, (0, 8), zi_8, zi_3, zi_1, (0, 3), zi_4, zi_5, zi_6, (0, 7), zi_7, (0, 8), zi_8, zi_3, zi_1, (0, 3), zi_4, zi_5, zi_6, (0, 7), zi_7, (0, 8), zi_8, zi_3, zi_1, (0, 3), zi_4, zi_5, zi_6, (0, 7), zi_7, (0, 8), zi_8, zi_3, zi_1, (0, 3), zi_4, zi_5, zi_6, (0, 7), zi_7, (0, 8), zi_8, zi_3, (0, 1), (0, 1), (0, 1), zi_197, (0, 3), (0, 3)], []), [(0, (2, 0, 0)), (1, (0, 14, 0)), (2, (0, 0, 1)), (3, (1, 106, 0)), (5, (0, 107, 0))], [], [zcl599, zcl257, zcl258, zcl259, zcl37, zcl72, zcl260, zcl261, zcl262, zcl263, zcl264, zcl265, zcl266, zcl12, zcl12, zcl12, zcl13, zcl13, zcl14, zcl42, zcl42, zcl267, zcl49], 0, 0), [(99991, 0), (3, 107)])]
noncomputable def zu297 : List (Nat × zCn) := [(175, zn150), (177, zn151), (182, zn153), (189, zn178), (190, zn186)]
set_option maxRecDepth 100000 in
theorem zk297 : z_conB zSPd zD (z_callC 14 zu297 (z_runC zSPd 14 zu297 zD zDF zTC 20000 0)) zDF zTC 20000 17179869184 2 2 0 0 8 zT198 zn297 none zc297 = true := by decide +kernel
/-- m.weightOf2 -/
noncomputable def zn298 : zCn := (((zjl_312, []), [(2, 0, 0), (0, 14, 0), (0, 0, 2)], [zcl256, zcl257, zcl258, zcl259, zcl37, zcl72, zcl260, zcl261, zcl262, zcl263, zcl264, zcl265, zcl266, zcl12, zcl12, zcl12, zcl13, zcl13, zcl14, zcl42, zcl42, zcl267, zcl49]), [(([(0, 0), zi_0, zi_0, zi_0, zi_0, zi_0, zi_0, zi_0, zi_0, zi_0, zi_0, zi_0, zi_0, zi_0, zi_3, zi_2, zi_69, zi_69, (0, 4), zi_69, zi_2, zi_197, (0, 3), zi_2, (0, 3), zi_2, zi_2, zi_2, zi_2, zi_2, zi_3, zi_2, zi_2, zi_2, zi_2, zi_2, zi_2, zi_2, zi_2, zi_2, zi_61, zi_61, zi_61, zi_61, zi_33, zi_33, zi_33, zi_33, zi_2, zi_2, zi_2, zi_2, zi_2, zi_1, (0, 3), zi_4, zi_5, zi_6, (0, 7), zi_7, (0, 8), zi_8, zi_3, zi_1, (0, 3), zi_4, zi_5, zi_6, (0, 7), zi_7, (0, 8), zi_8, zi_3, zi_1, (0, 3), zi_4, zi_5, zi_6, (0, 7), zi_7, (0, 8), zi_8, zi_3, zi_1, (0, 3), zi_4, zi_5, zi_6, (0, 7), zi_7, (0, 8), zi_8, zi_3, zi_1, (0, 3), zi_4, zi_5, zi_6, (0, 7), zi_7, (0, 8), zi_8, zi_3, (0, 1), (0, 1), (0, 1), zi_197, (0, 6)], []), [(1, 106, 0)], [zcl598, zcl257, zcl258, zcl259, zcl37, zcl72, zcl260, zcl261, zcl262, zcl263, zcl264, zcl265, zcl266, zcl12, zcl12, zcl12, zcl13, zcl13, zcl14, zcl42, zcl42, zcl267, zcl49])])
noncomputable def zc298 : List zCt := [(9, (([(0, 0), zi_0, zi_0, zi_0, zi_0, zi_0, zi_0, zi_0, zi_0, zi_0, zi_0, zi_0, zi_0, zi_0, zi_3, zi_2, zi_69, zi_69, (0, 4), zi_69, zi_2, zi_197, (0, 3), zi_2, (0, 3), zi_2, zi_2, zi_2, zi_2, zi_2, zi_3, zi_2, zi_2, zi_2, zi_2, zi_2, zi_2, zi_2, zi_2, zi_2, zi_61, zi_61, zi_61, zi_61, zi_33, zi_33, zi_33, zi_33, zi_2, zi_2, zi_2, zi_2, zi_2, zi_1, (0, 3), zi_4, zi_5, zi_6, (0, 7), zi_7, (0, 8), zi_8, zi_3, zi_1, (0, 3), zi_4, zi_5, zi_6, (0, 7), zi_7, (0, 8), zi_8, zi_3, zi_1, (0, 3), zi_4, zi_5, zi_6, (0, 7), zi_7, (0, 8), zi_8, zi_3, zi_1, (0, 3), zi_4, zi_5, zi_6, (0, 7), zi_7, (0, 8), zi_8, zi_3, zi_1, (0, 3), zi_4, zi_5, zi_6, (0, 7), zi_7, (0, 8), zi_8, zi_3, (0, 1), (0, 1), (0, 1), zi_197, (0, 4), (0, 6)], []), [(0, (2, 0, 0)), (1, (0, 14, 0)), (2, (0, 0, 2)), (3, (1, 106, 0)), (5, (0, 107, 0))], [], [zcl599, zcl257, zcl258, zcl259, zcl37, zcl72, zcl260, zcl261, zcl262, zcl263, zcl264, zcl265, zcl266, zcl12, zcl12, zcl12, zcl13, zcl13, zcl14, zcl42, zcl42, zcl267, zcl49], 0, 0), [(99991, 0), (4, 107)])]
noncomputable def zu298 : List (Nat × zCn) := [(175, zn150), (177, zn151), (182, zn153), (189, zn178), (189, zn179), (190, zn186), (190, zn187)]
set_option maxRecDepth 100000 in
theorem zk298 : z_conB zSPd zD (z_callC 14 zu298 (z_runC zSPd 14 zu298 zD zDF zTC 20000 0)) zDF zTC 20000 17179869184 2 2 0 0 8 zT198 zn298 none zc298 = true := by decide +kernel
/-- m.weightOf3 -/
noncomputable def zn299 : zCn := (((zjl_312, []), [(2, 0, 0), (0, 14, 0), (0, 0, 3)], [zcl256, zcl257, zcl258, zcl259, zcl37, zcl72, zcl260, zcl261, zcl262, zcl263, zcl264, zcl265, zcl266, zcl12, zcl12, zcl12, zcl13, zcl13, zcl14, zcl42, zcl42, zcl267, zcl49]), [(([(0, 0), zi_0, zi_0, zi_0, zi_0, zi_0, zi_0, zi_0, zi_0, zi_0, zi_0, zi_0, zi_0, zi_0, zi_3, zi_2, zi_69, zi_69, (0, 4), zi_69, zi_2, zi_197, (0, 3), zi_2, (0, 3), zi_2, zi_2, zi_2, zi_2, zi_2, zi_3, zi_2, zi_2, zi_2, zi_2, zi_2, zi_2, zi_2, zi_2, zi_2, zi_61, zi_61, zi_61, zi_61, zi_33, zi_33, zi_33, zi_33, zi_2, zi_2, zi_2, zi_2, zi_2, zi_1, (0, 3), zi_4, zi_5, zi_6, (0, 7), zi_7, (0, 8), zi_8, zi_3, zi_1, (0, 3), zi_4, zi_5, zi_6, (0, 7), zi_7, (0, 8), zi_8, zi_3, zi_1, (0, 3), zi_4, zi_5, zi_6, (0, 7), zi_7, (0, 8), zi_8, zi_3, zi_1, (0, 3), zi_4, zi_5, zi_6, (0, 7), zi_7, (0, 8), zi_8, zi_3, zi_1, (0, 3), zi_4, zi_5, zi_6, (0, 7), zi_7, (0, 8), zi_8, zi_3, (0, 1), (0, 1), (0, 1), zi_197, zi_1], []), [(1, 106, 0)], [zcl598, zcl257, zcl258, zcl259, zcl37, zcl72, zcl260, zcl261, zcl262, zcl263, zcl264, zcl265, zcl266, zcl12, zcl12, zcl12, zcl13, zcl13, zcl14, zcl42, zcl42, zcl267, zcl49])])
noncomputable def zc299 : List zCt := [(9, (([(0, 0), zi_0, zi_0, zi_0, zi_0, zi_0, zi_0, zi_0, zi_0, zi_0, zi_0, zi_0, zi_0, zi_0, zi_3, zi_2, zi_69, zi_69, (0, 4), zi_69, zi_2, zi_197, (0, 3), zi_2, (0, 3), zi_2, zi_2, zi_2, zi_2, zi_2, zi_3, zi_2, zi_2, zi_2, zi_2, zi_2, zi_2, zi_2, zi_2, zi_2, zi_61, zi_61, zi_61, zi_61, zi_33, zi_33, zi_33, zi_33, zi_2, zi_2, zi_2, zi_2, zi_2, zi_1, (0, 3), zi_4, zi_5, zi_6, (0, 7), zi_7, (0, 8), zi_8, zi_3, zi_1, (0, 3), zi_4, zi_5, zi_6, (0, 7), zi_7, (0, 8), zi_8, zi_3, zi_1, (0, 3), zi_4, zi_5, zi_6, (0, 7), zi_7, (0, 8), zi_8, zi_3, zi_1, (0, 3), zi_4, zi_5, zi_6, (0, 7), zi_7, (0, 8), zi_8, zi_3, zi_1, (0, 3), zi_4, zi_5, zi_6, (0, 7), zi_7, (0, 8), zi_8, zi_3, (0, 1), (0, 1), (0, 1), zi_197, (0, 8), zi_1], []), [(0, (2, 0, 0)), (1, (0, 14, 0)), (2, (0, 0, 3)), (3, (1, 106, 0)), (5, (0, 107, 0))], [], [zcl599, zcl257, zcl258, zcl259, zcl37, zcl72, zcl260, zcl261, zcl262, zcl263, zcl264, zcl265, zcl266, zcl12, zcl12, zcl12, zcl13, zcl13, zcl14, zcl42, zcl42, zcl267, zcl49], 0, 0), [(99991, 0), (8, 107)])]
noncomputable def zu299 : List (Nat × zCn) := [(175, zn150), (177, zn151), (182, zn153), (189, zn178), (189, zn179), (189, zn180), (190, zn186), (190, zn187), (190, zn188)]
set_option maxRecDepth 100000 in
theorem zk299 : z_conB zSPd zD (z_callC 14 zu299 (z_runC zSPd 14 zu299 zD zDF zTC 20000 0)) zDF zTC 20000 17179869184 2 2 0 0 8 zT198 zn299 none zc299 = true := by decide +kernel
/-- m.weightOf4 -/
noncomputable def zn300 : zCn := (((zjl_312, []), [(2, 0, 0), (0, 14, 0), (0, 0, 4)], [zcl256, zcl257, zcl258, zcl259, zcl37, zcl72, zcl260, zcl261, zcl262, zcl263, zcl264, zcl265, zcl266, zcl12, zcl12, zcl12, zcl13, zcl13, zcl14, zcl42, zcl42, zcl267, zcl49]), [(([(0, 0), zi_0, zi_0, zi_0, zi_0, zi_0, zi_0, zi_0, zi_0, zi_0, zi_0, zi_0, zi_0, zi_0, zi_3, zi_2, zi_69, zi_69, (0, 4), zi_69, zi_2, zi_197, (0, 3), zi_2, (0, 3), zi_2, zi_2, zi_2, zi_2, zi_2, zi_3, zi_2, zi_2, zi_2, zi_2, zi_2, zi_2, zi_2, zi_2, zi_2, zi_61, zi_61, zi_61, zi_61, zi_33, zi_33, zi_33, zi_33, zi_2, zi_2, zi_2, zi_2, zi_2, zi_1, (0, 3), zi_4, zi_5, zi_6, (0, 7), zi_7, (0, 8), zi_8, zi_3, zi_1, (0, 3), zi_4, zi_5, zi_6, (0, 7), zi_7, (0, 8), zi_8, zi_3, zi_1, (0, 3), zi_4, zi_5, zi_6, (0, 7), zi_7, (0, 8), zi_8, zi_3, zi_1, (0, 3), zi_4, zi_5, zi_6, (0, 7), zi_7, (0, 8), zi_8, zi_3, zi_1, (0, 3), zi_4, zi_5, zi_6, (0, 7), zi_7, (0, 8), zi_8, zi_3, (0, 1), (0, 1), (0, 1), zi_197, zi_8], []), [(1, 106, 0)], [zcl598, zcl257, zcl258, zcl259, zcl37, zcl72, zcl260, zcl261, zcl262, zcl263, zcl264, zcl265, zcl266, zcl12, zcl12, zcl12, zcl13, zcl13, zcl14, zcl42, zcl42, zcl267, zcl49])])
noncomputable def zc300 : List zCt := [(9, (([(0, 0), zi_0, zi_0, zi_0, zi_0, zi_0, zi_0, zi_0, zi_0, zi_0, zi_0, zi_0, zi_0, zi_0, zi_3, zi_2, zi_69, zi_69, (0, 4), zi_69, zi_2, zi_197, (0, 3), zi_2, (0, 3), zi_2, zi_2, zi_2, zi_2, zi_2, zi_3, zi_2, zi_2, zi_2, zi_2, zi_2, zi_2, zi_2, zi_2, zi_2, zi_61, zi_61, zi_61, zi_61, zi_33, zi_33, zi_33, zi_33, zi_2, zi_2, zi_2, zi_2, zi_2, zi_1, (0, 3), zi_4, zi_5, zi_6, (0, 7), zi_7, (0, 8), zi_8, zi_3, zi_1, (0, 3), zi_4, zi_5, zi_6, (0, 7), zi_7, (0, 8), zi_8, zi_3, zi_1, (0, 3), zi_4, zi_5, zi_6, (0, 7), zi_7, (0, 8), zi_8, zi_3, zi_1, (0, 3), zi_4, zi_5, zi_6, (0, 7), zi_7, (0, 8), zi_8, zi_3, zi_1, (0, 3), zi_4, zi_5, zi_6, (0, 7), zi_7, (0, 8), zi_8, zi_3, (0, 1), (0, 1), (0, 1), zi_197, zi_6, zi_8], []), [(0, (2, 0, 0)), (1, (0, 14, 0)), (2, (0, 0, 4)), (3, (1, 106, 0)), (5, (0, 107, 0))], [], [zcl599, zcl257, zcl258, zcl259, zcl37, zcl72, zcl260, zcl261, zcl262, zcl263, zcl264, zcl265, zcl266, zcl12, zcl12, zcl12, zcl13, zcl13, zcl14, zcl42, zcl42, zcl267, zcl49], 0, 0), [(99991, 0), (20, 107)])]
noncomputable def zu300 : List (Nat × zCn) := [(175, zn150), (177, zn151), (182, zn153), (189, zn178), (189, zn179), (189, zn180), (189, zn181), (190, zn186), (190, zn187), (190, zn188), (190, zn189)]
set_option maxRecDepth 100000 in
theorem zk300 : z_conB zSPd zD (z_callC 14 zu300 (z_runC zSPd 14 zu300 zD zDF zTC 20000 0)) zDF zTC 20000 17179869184 2 2 0 0 8 zT198 zn300 none zc300 = true := by decide +kernel
/-- m.weightOf5 -/
noncomputable def zn301 : zCn := (((zjl_312, []), [(2, 0, 0), (0, 14, 0), (0, 0, 5)], [zcl256, zcl257, zcl258, zcl259, zcl37, zcl72, zcl260, zcl261, zcl262, zcl263, zcl264, zcl265, zcl266, zcl12, zcl12, zcl12, zcl13, zcl13, zcl14, zcl42, zcl42, zcl267, zcl49]), [(([(0, 0), zi_0, zi_0, zi_0, zi_0, zi_0, zi_0, zi_0, zi_0, zi_0, zi_0, zi_0, zi_0, zi_0, zi_3, zi_2, zi_69, zi_69, (0, 4), zi_69, zi_2, zi_197, (0, 3), zi_2, (0, 3), zi_2, zi_2, zi_2, zi_2, zi_2, zi_3, zi_2, zi_2, zi_2, zi_2, zi_2, zi_2, zi_2, zi_2, zi_2, zi_61, zi_61, zi_61, zi_61, zi_33, zi_33, zi_33, zi_33, zi_2, zi_2, zi_2, zi_2, zi_2, zi_1, (0, 3), zi_4, zi_5, zi_6, (0, 7), zi_7, (0, 8), zi_8, zi_3, zi_1, (0, 3), zi_4, zi_5, zi_6, (0, 7), zi_7, (0, 8), zi_8, zi_3, zi_1, (0, 3), zi_4, zi_5, zi_6, (0, 7), zi_7, (0, 8), zi_8, zi_3, zi_1, (0, 3), zi_4, zi_5, zi_6, (0, 7), zi_7, (0, 8), zi_8, zi_3, zi_1, (0, 3), zi_4, zi_5, zi_6, (0, 7), zi_7, (0, 8), zi_8, zi_3, (0, 1), (0, 1), (0, 1), zi_197, zi_600], []), [(1, 106, 0)], [zcl598, zcl257, zcl258, zcl259, zcl37, zcl72, zcl260, zcl261, zcl262, zcl263, zcl264, zcl265, zcl266, zcl12, zcl12, zcl12, zcl13, zcl13, zcl14, zcl42, zcl42, zcl267, zcl49])])
noncomputable def zc301 : List zCt := [(9, (([(0, 0), zi_0, zi_0, zi_0, zi_0, zi_0, zi_0, zi_0, zi_0, zi_0, zi_0, zi_0, zi_0, zi_0, zi_3, zi_2, zi_69, zi_69, (0, 4), zi_69, zi_2, zi_197, (0, 3), zi_2, (0, 3), zi_2, zi_2, zi_2, zi_2, zi_2, zi_3, zi_2, zi_2, zi_2, zi_2, zi_2, zi_2, zi_2, zi_2, zi_2, zi_61, zi_61, zi_61, zi_61, zi_33, zi_33, zi_33, zi_33, zi_2, zi_2, zi_2, zi_2, zi_2, zi_1, (0, 3), zi_4, zi_5, zi_6, (0, 7), zi_7, (0, 8), zi_8, zi_3, zi_1, (0, 3), zi_4, zi_5, zi_6, (0, 7), zi_7, (0, 8), zi_8, zi_3, zi_1, (0, 3), zi_4, zi_5, zi_6, (0, 7), zi_7, (0, 8), zi_8, zi_3, zi_1, (0, 3), zi_4, zi_5, zi_6, (0, 7), zi_7, (0, 8), zi_8, zi_3, zi_1, (0, 3), zi_4, zi_5, zi_6, (0, 7), zi_7, (0, 8), zi_8, zi_3, (0, 1), (0, 1), (0, 1), zi_197, zi_33, zi_600], []), [(0, (2, 0, 0)), (1, (0, 14, 0)), (2, (0, 0, 5)), (3, (1, 106, 0)), (5, (0, 107, 0))], [], [zcl599, zcl257, zcl258, zcl259, zcl37, zcl72, zcl260, zcl261, zcl262, zcl263, zcl264, zcl265, zcl266, zcl12, zcl12, zcl12, zcl13, zcl13, zcl14, zcl42, zcl42, zcl267, zcl49], 0, 0), [(99991, 0), (60, 107)])]
noncomputable def zu301 : List (Nat × zCn) := [(175, zn150), (177, zn151), (182, zn153), (189, zn178), (189, zn179), (189, zn180), (189, zn181), (189, zn182), (190, zn186), (190, zn187), (190, zn188), (190, zn189), (190, zn190)]
set_option maxRecDepth 100000 in
theorem zk301 : z_conB zSPd zD (z_callC 14 zu301 (z_runC zSPd 14 zu301 zD zDF zTC 20000 0)) zDF zTC 20000 17179869184 2 2 0 0 8 zT198 zn301 none zc301 = true := by decide +kernel
/-- m.weightOf6 -/
noncomputable def zn302 : zCn := (((zjl_312, []), [(2, 0, 0), (0, 14, 0), (0, 0, 6)], [zcl256, zcl257, zcl258, zcl259, zcl37, zcl72, zcl260, zcl261, zcl262, zcl263, zcl264, zcl265, zcl266, zcl12, zcl12, zcl12, zcl13, zcl13, zcl14, zcl42, zcl42, zcl267, zcl49]), [(([(0, 0), zi_0, zi_0, zi_0, zi_0, zi_0, zi_0, zi_0, zi_0, zi_0, zi_0, zi_0, zi_0, zi_0, zi_3, zi_2, zi_69, zi_69, (0, 4), zi_69, zi_2, zi_197, (0, 3), zi_2, (0, 3), zi_2, zi_2, zi_2, zi_2, zi_2, zi_3, zi_2, zi_2, zi_2, zi_2, zi_2, zi_2, zi_2, zi_2, zi_2, zi_61, zi_61, zi_61, zi_61, zi_33, zi_33, zi_33, zi_33, zi_2, zi_2, zi_2, zi_2, zi_2, zi_1, (0, 3), zi_4, zi_5, zi_6, (0, 7), zi_7, (0, 8), zi_8, zi_3, zi_1, (0, 3), zi_4, zi_5, zi_6, (0, 7), zi_7, (0, 8), zi_8, zi_3, zi_1, (0, 3), zi_4, zi_5, zi_6, (0, 7), zi_7, (0, 8), zi_8, zi_3, zi_1, (0, 3), zi_4, zi_5, zi_6, (0, 7), zi_7, (0, 8), zi_8, zi_3, zi_1, (0, 3), zi_4, zi_5, zi_6, (0, 7), zi_7, (0, 8), zi_8, zi_3, (0, 1), (0, 1), (0, 1), zi_197, zi_21], []), [(1, 106, 0)], [zcl598, zcl257, zcl258, zcl259, zcl37, zcl72, zcl260, zcl261, zcl262, zcl263, zcl264, zcl265, zcl266, zcl12, zcl12, zcl12, zcl13, zcl13, zcl14, zcl42, zcl42, zcl267, zcl49])])
noncomputable def zc302 : List zCt := [(9, (([(0, 0), zi_0, zi_0, zi_0, zi_0, zi_0, zi_0, zi_0, zi_0, zi_0, zi_0, zi_0, zi_0, zi_0, zi_3, zi_2, zi_69, zi_69, (0, 4), zi_69, zi_2, zi_197, (0, 3), zi_2, (0, 3), zi_2, zi_2, zi_2, zi_2, zi_2, zi_3, zi_2, zi_2, zi_2, zi_2, zi_2, zi_2, zi_2, zi_2, zi_2, zi_61, zi_61, zi_61, zi_61, zi_33, zi_33, zi_33, zi_33, zi_2, zi_2, zi_2, zi_2, zi_2, zi_1, (0, 3), zi_4, zi_5, zi_6, (0, 7), zi_7, (0, 8), zi_8, zi_3, zi_1, (0, 3), zi_4, zi_5, zi_6, (0, 7), zi_7, (0, 8), zi_8, zi_3, zi_1, (0, 3), zi_4, zi_5, zi_6, (0, 7), zi_7, (0, 8), zi_8, zi_3, zi_1, (0, 3), zi_4, zi_5, zi_6, (0, 7), zi_7, (0, 8), zi_8, zi_3, zi_1, (0, 3), zi_4, zi_5, zi_6, (0, 7), zi_7, (0, 8), zi_8, zi_3, (0, 1), (0, 1), (0, 1), zi_197, zi_175, zi_21], []), [(0, (2, 0, 0)), (1, (0, 14, 0)), (2, (0, 0, 6)), (3, (1, 106, 0)), (5, (0, 107, 0))], [], [zcl599, zcl257, zcl258, zcl259, zcl37, zcl72, zcl260, zcl261, zcl262, zcl263, zcl264, zcl265, zcl266, zcl12, zcl12, zcl12, zcl13, zcl13, zcl14, zcl42, zcl42, zcl267, zcl49], 0, 0), [(99991, 0), (99, 107)])]
noncomputable def zu302 : List (Nat × zCn) := [(175, zn150), (177, zn151), (182, zn153), (189, zn178), (189, zn179), (189, zn180), (189, zn181), (189, zn182), (189, zn183), (190, zn186), (190, zn187), (190, zn188), (190, zn189), (190, zn190), (190, zn191)]
set_option maxRecDepth 100000 in
theorem zk302 : z_conB zSPd zD (z_callC 14 zu302 (z_runC zSPd 14 zu302 zD zDF zTC 20000 0)) zDF zTC 20000 17179869184 2 2 0 0 8 zT198 zn302 none zc302 = true := by decide +kernel
/-- m.weightOf7 -/
noncomputable def zn303 : zCn := (((zjl_312, []), [(2, 0, 0), (0, 14, 0), (0, 0, 7)], [zcl256, zcl257, zcl258, zcl259, zcl37, zcl72, zcl260, zcl261, zcl262, zcl263, zcl264, zcl265, zcl266, zcl12, zcl12, zcl12, zcl13, zcl13, zcl14, zcl42, zcl42, zcl267, zcl49]), [(([(0, 0), zi_0, zi_0, zi_0, zi_0, zi_0, zi_0, zi_0, zi_0, zi_0, zi_0, zi_0, zi_0, zi_0, zi_3, zi_2, zi_69, zi_69, (0, 4), zi_69, zi_2, zi_197, (0, 3), zi_2, (0, 3), zi_2, zi_2, zi_2, zi_2, zi_2, zi_3, zi_2, zi_2, zi_2, zi_2, zi_2, zi_2, zi_2, zi_2, zi_2, zi_61, zi_61, zi_61, zi_61, zi_33, zi_33, zi_33, zi_33, zi_2, zi_2, zi_2, zi_2, zi_2, zi_1, (0, 3), zi_4, zi_5, zi_6, (0, 7), zi_7, (0, 8), zi_8, zi_3, zi_1, (0, 3), zi_4, zi_5, zi_6, (0, 7), zi_7, (0, 8), zi_8, zi_3, zi_1, (0, 3), zi_4, zi_5, zi_6, (0, 7), zi_7, (0, 8), zi_8, zi_3, zi_1, (0, 3), zi_4, zi_5, zi_6, (0, 7), zi_7, (0, 8), zi_8, zi_3, zi_1, (0, 3), zi_4, zi_5, zi_6, (0, 7), zi_7, (0, 8), zi_8, zi_3, (0, 1), (0, 1), (0, 1), zi_197, zi_236], []), [(1, 106, 0)], [zcl598, zcl257, zcl258, zcl259, zcl37, zcl72, zcl260, zcl261, zcl262, zcl263, zcl264, zcl265, zcl266, zcl12, zcl12, zcl12, zcl13, zcl13, zcl14, zcl42, zcl42, zcl267, zcl49])])
noncomputable def zc303 : List zCt := [(9, (([(0, 0), zi_0, zi_0, zi_0, zi_0, zi_0, zi_0, zi_0, zi_0, zi_0, zi_0, zi_0, zi_0, zi_0, zi_3, zi_2, zi_69, zi_69, (0, 4), zi_69, zi_2, zi_197, (0, 3), zi_2, (0, 3), zi_2, zi_2, zi_2, zi_2, zi_2, zi_3, zi_2, zi_2, zi_2, zi_2, zi_2, zi_2, zi_2, zi_2, zi_2, zi_61, zi_61, zi_61, zi_61, zi_33, zi_33, zi_33, zi_33, zi_2, zi_2, zi_2, zi_2, zi_2, zi_1, (0, 3), zi_4, zi_5, zi_6, (0, 7), zi_7, (0, 8), zi_8, zi_3, zi_1, (0, 3), zi_4, zi_5, zi_6, (0, 7), zi_7, (0, 8), zi_8, zi_3, zi_1, (0, 3), zi_4, zi_5, zi_6, (0, 7), zi_7, (0, 8), zi_8, zi_3, zi_1, (0, 3), zi_4, zi_5, zi_6, (0, 7), zi_7, (0, 8), zi_8, zi_3, zi_1, (0, 3), zi_4, zi_5, zi_6, (0, 7), zi_7, (0, 8), zi_8, zi_3, (0, 1), (0, 1), (0, 1), zi_197, zi_199, zi_236], []), [(0, (2, 0, 0)), (1, (0, 14, 0)), (2, (0, 0, 7)), (3, (1, 106, 0)), (5, (0, 107, 0))], [], [zcl599, zcl257, zcl258, zcl259, zcl37, zcl72, zcl260, zcl261, zcl262, zcl263, zcl264, zcl265, zcl266, zcl12, zcl12, zcl12, zcl13, zcl13, zcl14, zcl42, zcl42, zcl267, zcl49], 0, 0), [(99991, 0), (128, 107)])]
noncomputable def zu303 : List (Nat × zCn) := [(175, zn150), (177, zn151), (182, zn153), (189, zn178), (189, zn179), (189, zn180), (189, zn181), (189, zn182), (189, zn183), (189, zn184), (190, zn186), (190, zn187), (190, zn188), (190, zn189), (190, zn190), (190, zn191), (190, zn192)]
set_option maxRecDepth 100000 in
theorem zk303 : z_conB zSPd zD (z_callC 14 zu303 (z_runC zSPd 14 zu303 zD zDF zTC 20000 0)) zDF zTC 20000 17179869184 2 2 0 0 8 zT198 zn303 none zc303 = true := by decide +kernel
/-- m.weightOf8 -/
noncomputable def zn304 : zCn := (((zjl_312, []), [(2, 0, 0), (0, 14, 0), (0, 0, 8)], [zcl256, zcl257, zcl258, zcl259, zcl37, zcl72, zcl260, zcl261, zcl262, zcl263, zcl264, zcl265, zcl266, zcl12, zcl12, zcl12, zcl13, zcl13, zcl14, zcl42, zcl42, zcl267, zcl49]), [(([(0, 0), zi_0, zi_0, zi_0, zi_0, zi_0, zi_0, zi_0, zi_0, zi_0, zi_0, zi_0, zi_0, zi_0, zi_3, zi_2, zi_69, zi_69, (0, 4), zi_69, zi_2, zi_197, (0, 3), zi_2, (0, 3), zi_2, zi_2, zi_2, zi_2, zi_2, zi_3, zi_2, zi_2, zi_2, zi_2, zi_2, zi_2, zi_2, zi_2, zi_2, zi_61, zi_61, zi_61, zi_61, zi_33, zi_33, zi_33, zi_33, zi_2, zi_2, zi_2, zi_2, zi_2, zi_1, (0, 3), zi_4, zi_5, zi_6, (0, 7), zi_7, (0, 8), zi_8, zi_3, zi_1, (0, 3), zi_4, zi_5, zi_6, (0, 7), zi_7, (0, 8), zi_8, zi_3, zi_1, (0, 3), zi_4, zi_5, zi_6, (0, 7), zi_7, (0, 8), zi_8, zi_3, zi_1, (0, 3), zi_4, zi_5, zi_6, (0, 7), zi_7, (0, 8), zi_8, zi_3, zi_1, (0, 3), zi_4, zi_5, zi_6, (0, 7), zi_7, (0, 8), zi_8, zi_3, (0, 1), (0, 1), (0, 1), zi_197, zi_69], []), [(1, 106, 0)], [zcl598, zcl257, zcl258, zcl259, zcl37, zcl72, zcl260, zcl261, zcl262, zcl263, zcl264, zcl265, zcl266, zcl12, zcl12, zcl12, zcl13, zcl13, zcl14, zcl42, zcl42, zcl267, zcl49])])
noncomputable def zc304 : List zCt := [(9, (([(0, 0), zi_0, zi_0, zi_0, zi_0, zi_0, zi_0, zi_0, zi_0, zi_0, zi_0, zi_0, zi_0, zi_0, zi_3, zi_2, zi_69, zi_69, (0, 4), zi_69, zi_2, zi_197, (0, 3), zi_2, (0, 3), zi_2, zi_2, zi_2, zi_2, zi_2, zi_3, zi_2, zi_2, zi_2, zi_2, zi_2, zi_2, zi_2, zi_2, zi_2, zi_61, zi_61, zi_61, zi_61, zi_33, zi_33, zi_33, zi_33, zi_2, zi_2, zi_2, zi_2, zi_2, zi_1, (0, 3), zi_4, zi_5, zi_6, (0, 7), zi_7, (0, 8), zi_8, zi_3, zi_1, (0, 3), zi_4, zi_5, zi_6, (0, 7), zi_7, (0, 8), zi_8, zi_3, zi_1, (0, 3), zi_4, zi_5, zi_6, (0, 7), zi_7, (0, 8), zi_8, zi_3, zi_1, (0, 3), zi_4, zi_5, zi_6, (0, 7), zi_7, (0, 8), zi_8, zi_3, zi_1, (0, 3), zi_4, zi_5, zi_6, (0, 7), zi_7, (0, 8), zi_8, zi_3, (0, 1), (0, 1), (0, 1), zi_197, zi_236, zi_69], []), [(0, (2, 0, 0)), (1, (0, 14, 0)), (2, (0, 0, 8)), (3, (1, 106, 0)), (5, (0, 107, 0))], [], [zcl599, zcl257, zcl258, zcl259, zcl37, zcl72, zcl260, zcl261, zcl262, zcl263, zcl264, zcl265, zcl266, zcl12, zcl12, zcl12, zcl13, zcl13, zcl14, zcl42, zcl42, zcl267, zcl49], 0, 0), [(99991, 0), (256, 107)])]
noncomputable def zu304 : List (Nat × zCn) := [(175, zn150), (177, zn151), (182, zn153), (189, zn178), (189, zn179), (189, zn180), (189, zn181), (189, zn182), (189, zn183), (189, zn184), (189, zn185), (190, zn186), (190, zn187), (190, zn188), (190, zn189), (190, zn190), (190, zn191), (190, zn192), (190, zn193)]
set_option maxRecDepth 100000 in
theorem zk304 : z_conB zSPd zD (z_callC 14 zu304 (z_runC zSPd 14 zu304 zD zDF zTC 20000 0)) zDF zTC 20000 17179869184 2 2 0 0 8 zT198 zn304 none zc304 = true := by decide +kernel
