/-! by program: the law's does, by the targets of its switch, on -/
/-- from 766; no rows for: [] -/
def tX12_does_k : jTb := [(766, .iconst 1, 767, 0, 1), (767, .iload_n 1, 768, 0, 0), (768, .iconst 5, 769, 0, 5), (769, .ishr, 770, 0, 0), (770, .iconst 3, 771, 0, 3), (771, .invokestatic 33, 774, 0, 0), (774, .iadd, 775, 0, 0), (775, .istore 5, 777, 0, 0), (777, .iconst 0, 778, 0, 0), (778, .istore 6, 780, 0, 0), (780, .iload 6, 782, 0, 0), (782, .iload 5, 784, 0, 0), (784, .if_icmp .ge 13, 787, 797, 0), (787, .aload_n 0, 788, 0, 0), (788, .invokevirtual 342, 791, 0, 0), (791, .iinc 6 1, 794, 0, 1), (794, .goto (-14), 797, 780, 0), (797, .aload_n 0, 798, 0, 0), (798, .getfield 10, 801, 0, 0), (801, .iload 5, 803, 0, 0), (803, .invokevirtual 345, 806, 0, 0), (806, .aload_n 0, 807, 0, 0), (807, .getfield 251, 810, 0, 0), (810, .if_icmp .ne 7, 813, 817, 0), (813, .iconst 1, 814, 0, 1), (814, .goto 4, 817, 818, 0), (817, .iconst 0, 818, 0, 0), (818, .ireturn, 819, 0, 0)]
theorem DX12_does_k : dT mX12_does qX12 qlX12 tX12_does_k := dT.of qX12_ok qlX12_ok qkX12_ok (by decide +kernel) (by decide +kernel)
/-- from 819; no rows for: [] -/
def tX12_does_l : jTb := [(819, .aload_n 0, 820, 0, 0), (820, .invokevirtual 348, 823, 0, 0), (823, .ireturn, 824, 0, 0)]
theorem DX12_does_l : dT mX12_does qX12 qlX12 tX12_does_l := dT.of qX12_ok qlX12_ok qkX12_ok (by decide +kernel) (by decide +kernel)
set_option maxRecDepth 1000000 in
theorem WX12_does_c : lw_tbl[1592]? = some (Cond.code mX12_does.1 mX12_does.2.1 mX12_does.2.2.1 mX12_does.2.2.2) := by rfl
theorem WX12_does : jMv mX12_does 1 := ⟨⟨(jGw_of 55 (by decide +kernel) (by decide +kernel)), (jGw_of 1592 WX12_does_c (by decide +kernel)), ⟨by decide +kernel, by decide +kernel, by decide +kernel⟩, by decide⟩, (jGw_of 1590 (by decide +kernel) (by decide +kernel)), (jGw_of 1591 (by decide +kernel) (by decide +kernel))⟩
