theorem r_L_law_1566 : IOK WB AD SR FW TB md_L_law 1566 (.invokevirtual 222, 49, 18, 0, []) := io_virt (by decide +kernel) tb_X17_holds (wb_9 126 rfl rfl) in_X17_holds se_X17_holds ⟨_, rfl, rfl⟩ pr_X17_holds (by decide)
theorem r_L_law_1569 : IOK WB AD SR FW TB md_L_law 1569 (.istore 6, 0, 0, 0, []) := io_plain (by decide +kernel) rfl
theorem r_L_law_1571 : IOK WB AD SR FW TB md_L_law 1571 (.aload_n 2, 0, 0, 0, []) := io_plain (by decide +kernel) rfl
theorem r_L_law_1572 : IOK WB AD SR FW TB md_L_law 1572 (.invokevirtual 136, 22, 18, 0, []) := io_virt (by decide +kernel) tb_X17_thrown (wb_7 239 rfl rfl) in_X17_thrown se_X17_thrown ⟨_, rfl, rfl⟩ pr_X17_thrown (by decide)
theorem r_L_law_1575 : IOK WB AD SR FW TB md_L_law 1575 (.iload 5, 0, 0, 0, []) := io_plain (by decide +kernel) rfl
theorem r_L_law_1577 : IOK WB AD SR FW TB md_L_law 1577 (.if_icmp .eq 5, 0, 0, 0, []) := io_plain (by decide +kernel) rfl
theorem r_L_law_1582 : IOK WB AD SR FW TB md_L_law 1582 (.iload 5, 0, 0, 0, []) := io_plain (by decide +kernel) rfl
theorem r_L_law_1584 : IOK WB AD SR FW TB md_L_law 1584 (.ifCond .ne 22, 0, 0, 0, []) := io_plain (by decide +kernel) rfl
theorem r_L_law_1606 : IOK WB AD SR FW TB md_L_law 1606 (.goto 656, 0, 0, 0, []) := io_plain (by decide +kernel) rfl
theorem r_L_law_1609 : IOK WB AD SR FW TB md_L_law 1609 (.aload_n 1, 0, 0, 0, []) := io_plain (by decide +kernel) rfl
theorem r_L_law_1610 : IOK WB AD SR FW TB md_L_law 1610 (.aload_n 0, 0, 0, 0, []) := io_plain (by decide +kernel) rfl
theorem r_L_law_1611 : IOK WB AD SR FW TB md_L_law 1611 (.iload 4, 0, 0, 0, []) := io_plain (by decide +kernel) rfl
theorem r_L_law_1613 : IOK WB AD SR FW TB md_L_law 1613 (.iconst 1, 0, 0, 0, []) := io_plain (by decide +kernel) rfl
theorem r_L_law_1614 : IOK WB AD SR FW TB md_L_law 1614 (.iadd, 0, 0, 0, []) := io_plain (by decide +kernel) rfl
theorem r_L_law_1615 : IOK WB AD SR FW TB md_L_law 1615 (.iaload, 0, 0, 0, []) := io_plain (by decide +kernel) rfl
theorem r_L_law_1616 : IOK WB AD SR FW TB md_L_law 1616 (.aload_n 3, 0, 0, 0, []) := io_plain (by decide +kernel) rfl
theorem r_L_law_1617 : IOK WB AD SR FW TB md_L_law 1617 (.invokestatic 223, 95, 0, 0, []) := io_stat (by decide +kernel) tb_L_use (wb_6 120 rfl rfl) st_L_use pr_L_use
theorem r_L_law_1620 : IOK WB AD SR FW TB md_L_law 1620 (.istore 5, 0, 0, 0, []) := io_plain (by decide +kernel) rfl
theorem r_L_law_1622 : IOK WB AD SR FW TB md_L_law 1622 (.aload_n 2, 0, 0, 0, []) := io_plain (by decide +kernel) rfl
theorem r_L_law_1623 : IOK WB AD SR FW TB md_L_law 1623 (.aload_n 0, 0, 0, 0, []) := io_plain (by decide +kernel) rfl
theorem r_L_law_1624 : IOK WB AD SR FW TB md_L_law 1624 (.iload 4, 0, 0, 0, []) := io_plain (by decide +kernel) rfl
theorem r_L_law_1626 : IOK WB AD SR FW TB md_L_law 1626 (.iconst 1, 0, 0, 0, []) := io_plain (by decide +kernel) rfl
theorem r_L_law_1627 : IOK WB AD SR FW TB md_L_law 1627 (.iadd, 0, 0, 0, []) := io_plain (by decide +kernel) rfl
theorem r_L_law_1628 : IOK WB AD SR FW TB md_L_law 1628 (.iaload, 0, 0, 0, []) := io_plain (by decide +kernel) rfl
theorem r_L_law_1629 : IOK WB AD SR FW TB md_L_law 1629 (.invokevirtual 225, 54, 18, 0, []) := io_virt (by decide +kernel) tb_X17_use (wb_9 134 rfl rfl) in_X17_use se_X17_use ⟨_, rfl, rfl⟩ pr_X17_use (by decide)
theorem r_L_law_1632 : IOK WB AD SR FW TB md_L_law 1632 (.istore 6, 0, 0, 0, []) := io_plain (by decide +kernel) rfl
theorem r_L_law_1634 : IOK WB AD SR FW TB md_L_law 1634 (.aload_n 2, 0, 0, 0, []) := io_plain (by decide +kernel) rfl
theorem r_L_law_1635 : IOK WB AD SR FW TB md_L_law 1635 (.invokevirtual 136, 22, 18, 0, []) := io_virt (by decide +kernel) tb_X17_thrown (wb_7 239 rfl rfl) in_X17_thrown se_X17_thrown ⟨_, rfl, rfl⟩ pr_X17_thrown (by decide)
theorem r_L_law_1638 : IOK WB AD SR FW TB md_L_law 1638 (.iload 5, 0, 0, 0, []) := io_plain (by decide +kernel) rfl
theorem r_L_law_1640 : IOK WB AD SR FW TB md_L_law 1640 (.if_icmp .eq 5, 0, 0, 0, []) := io_plain (by decide +kernel) rfl
theorem r_L_law_1645 : IOK WB AD SR FW TB md_L_law 1645 (.iload 5, 0, 0, 0, []) := io_plain (by decide +kernel) rfl
theorem r_L_law_1647 : IOK WB AD SR FW TB md_L_law 1647 (.ifCond .ne 15, 0, 0, 0, []) := io_plain (by decide +kernel) rfl
theorem r_L_law_1662 : IOK WB AD SR FW TB md_L_law 1662 (.goto 600, 0, 0, 0, []) := io_plain (by decide +kernel) rfl
theorem r_L_law_1665 : IOK WB AD SR FW TB md_L_law 1665 (.aload_n 1, 0, 0, 0, []) := io_plain (by decide +kernel) rfl
theorem r_L_law_1666 : IOK WB AD SR FW TB md_L_law 1666 (.aload_n 3, 0, 0, 0, []) := io_plain (by decide +kernel) rfl
theorem r_L_law_1667 : IOK WB AD SR FW TB md_L_law 1667 (.invokestatic 226, 128, 0, 0, []) := io_stat (by decide +kernel) tb_L_idle (wb_6 137 rfl rfl) st_L_idle pr_L_idle
theorem r_L_law_1670 : IOK WB AD SR FW TB md_L_law 1670 (.istore 5, 0, 0, 0, []) := io_plain (by decide +kernel) rfl
theorem r_L_law_1672 : IOK WB AD SR FW TB md_L_law 1672 (.aload_n 2, 0, 0, 0, []) := io_plain (by decide +kernel) rfl
theorem r_L_law_1673 : IOK WB AD SR FW TB md_L_law 1673 (.invokevirtual 228, 74, 18, 0, []) := io_virt (by decide +kernel) tb_X17_idle (wb_9 173 rfl rfl) in_X17_idle se_X17_idle ⟨_, rfl, rfl⟩ pr_X17_idle (by decide)
theorem r_L_law_1676 : IOK WB AD SR FW TB md_L_law 1676 (.istore 6, 0, 0, 0, []) := io_plain (by decide +kernel) rfl
set_option maxRecDepth 100000 in
theorem ok_L_law_16 : ∀ q ∈ tl_L_law_16, IOK WB AD SR FW TB md_L_law q.1 q.2 := List.forall_mem_cons.mpr ⟨r_L_law_1566, List.forall_mem_cons.mpr ⟨r_L_law_1569, List.forall_mem_cons.mpr ⟨r_L_law_1571, List.forall_mem_cons.mpr ⟨r_L_law_1572, List.forall_mem_cons.mpr ⟨r_L_law_1575, List.forall_mem_cons.mpr ⟨r_L_law_1577, List.forall_mem_cons.mpr ⟨r_L_law_1582, List.forall_mem_cons.mpr ⟨r_L_law_1584, List.forall_mem_cons.mpr ⟨r_L_law_1606, List.forall_mem_cons.mpr ⟨r_L_law_1609, List.forall_mem_cons.mpr ⟨r_L_law_1610, List.forall_mem_cons.mpr ⟨r_L_law_1611, List.forall_mem_cons.mpr ⟨r_L_law_1613, List.forall_mem_cons.mpr ⟨r_L_law_1614, List.forall_mem_cons.mpr ⟨r_L_law_1615, List.forall_mem_cons.mpr ⟨r_L_law_1616, List.forall_mem_cons.mpr ⟨r_L_law_1617, List.forall_mem_cons.mpr ⟨r_L_law_1620, List.forall_mem_cons.mpr ⟨r_L_law_1622, List.forall_mem_cons.mpr ⟨r_L_law_1623, List.forall_mem_cons.mpr ⟨r_L_law_1624, List.forall_mem_cons.mpr ⟨r_L_law_1626, List.forall_mem_cons.mpr ⟨r_L_law_1627, List.forall_mem_cons.mpr ⟨r_L_law_1628, List.forall_mem_cons.mpr ⟨r_L_law_1629, List.forall_mem_cons.mpr ⟨r_L_law_1632, List.forall_mem_cons.mpr ⟨r_L_law_1634, List.forall_mem_cons.mpr ⟨r_L_law_1635, List.forall_mem_cons.mpr ⟨r_L_law_1638, List.forall_mem_cons.mpr ⟨r_L_law_1640, List.forall_mem_cons.mpr ⟨r_L_law_1645, List.forall_mem_cons.mpr ⟨r_L_law_1647, List.forall_mem_cons.mpr ⟨r_L_law_1662, List.forall_mem_cons.mpr ⟨r_L_law_1665, List.forall_mem_cons.mpr ⟨r_L_law_1666, List.forall_mem_cons.mpr ⟨r_L_law_1667, List.forall_mem_cons.mpr ⟨r_L_law_1670, List.forall_mem_cons.mpr ⟨r_L_law_1672, List.forall_mem_cons.mpr ⟨r_L_law_1673, List.forall_mem_cons.mpr ⟨r_L_law_1676, fun _ h => absurd h List.not_mem_nil⟩⟩⟩⟩⟩⟩⟩⟩⟩⟩⟩⟩⟩⟩⟩⟩⟩⟩⟩⟩⟩⟩⟩⟩⟩⟩⟩⟩⟩⟩⟩⟩⟩⟩⟩⟩⟩⟩⟩⟩
set_option maxRecDepth 100000 in
theorem tq_L_law_16 : tf_L_law_16 = tl_L_law_16.map (fun q => (q.1, stepOf NPf md_L_law q.2)) := rfl
theorem r_L_law_1678 : IOK WB AD SR FW TB md_L_law 1678 (.aload_n 2, 0, 0, 0, []) := io_plain (by decide +kernel) rfl
theorem r_L_law_1679 : IOK WB AD SR FW TB md_L_law 1679 (.invokevirtual 136, 22, 18, 0, []) := io_virt (by decide +kernel) tb_X17_thrown (wb_7 239 rfl rfl) in_X17_thrown se_X17_thrown ⟨_, rfl, rfl⟩ pr_X17_thrown (by decide)
theorem r_L_law_1682 : IOK WB AD SR FW TB md_L_law 1682 (.iload 5, 0, 0, 0, []) := io_plain (by decide +kernel) rfl
theorem r_L_law_1684 : IOK WB AD SR FW TB md_L_law 1684 (.if_icmp .eq 5, 0, 0, 0, []) := io_plain (by decide +kernel) rfl
theorem r_L_law_1689 : IOK WB AD SR FW TB md_L_law 1689 (.iload 5, 0, 0, 0, []) := io_plain (by decide +kernel) rfl
theorem r_L_law_1691 : IOK WB AD SR FW TB md_L_law 1691 (.ifCond .ne 15, 0, 0, 0, []) := io_plain (by decide +kernel) rfl
theorem r_L_law_1694 : IOK WB AD SR FW TB md_L_law 1694 (.aload_n 3, 0, 0, 0, []) := io_plain (by decide +kernel) rfl
theorem r_L_law_1695 : IOK WB AD SR FW TB md_L_law 1695 (.iconst 0, 0, 0, 0, []) := io_plain (by decide +kernel) rfl
theorem r_L_law_1696 : IOK WB AD SR FW TB md_L_law 1696 (.laload, 0, 0, 0, []) := io_plain (by decide +kernel) rfl
theorem r_L_law_1697 : IOK WB AD SR FW TB md_L_law 1697 (.iload 6, 0, 0, 0, []) := io_plain (by decide +kernel) rfl
theorem r_L_law_1699 : IOK WB AD SR FW TB md_L_law 1699 (.i2l, 0, 0, 0, []) := io_plain (by decide +kernel) rfl
theorem r_L_law_1700 : IOK WB AD SR FW TB md_L_law 1700 (.lcmp, 0, 0, 0, []) := io_plain (by decide +kernel) rfl
theorem r_L_law_1701 : IOK WB AD SR FW TB md_L_law 1701 (.ifCond .eq 5, 0, 0, 0, []) := io_plain (by decide +kernel) rfl
theorem r_L_law_1706 : IOK WB AD SR FW TB md_L_law 1706 (.goto 556, 0, 0, 0, []) := io_plain (by decide +kernel) rfl
theorem r_L_law_1709 : IOK WB AD SR FW TB md_L_law 1709 (.aload_n 1, 0, 0, 0, []) := io_plain (by decide +kernel) rfl
theorem r_L_law_1710 : IOK WB AD SR FW TB md_L_law 1710 (.aload_n 3, 0, 0, 0, []) := io_plain (by decide +kernel) rfl
theorem r_L_law_1711 : IOK WB AD SR FW TB md_L_law 1711 (.invokestatic 229, 141, 0, 0, []) := io_stat (by decide +kernel) tb_L_test (wb_6 144 rfl rfl) st_L_test pr_L_test
theorem r_L_law_1714 : IOK WB AD SR FW TB md_L_law 1714 (.istore 5, 0, 0, 0, []) := io_plain (by decide +kernel) rfl
theorem r_L_law_1716 : IOK WB AD SR FW TB md_L_law 1716 (.aload_n 2, 0, 0, 0, []) := io_plain (by decide +kernel) rfl
theorem r_L_law_1717 : IOK WB AD SR FW TB md_L_law 1717 (.invokevirtual 231, 100, 18, 0, []) := io_virt (by decide +kernel) tb_X17_test (wb_9 177 rfl rfl) in_X17_test se_X17_test ⟨_, rfl, rfl⟩ pr_X17_test (by decide)
theorem r_L_law_1720 : IOK WB AD SR FW TB md_L_law 1720 (.istore 6, 0, 0, 0, []) := io_plain (by decide +kernel) rfl
theorem r_L_law_1722 : IOK WB AD SR FW TB md_L_law 1722 (.aload_n 2, 0, 0, 0, []) := io_plain (by decide +kernel) rfl
theorem r_L_law_1723 : IOK WB AD SR FW TB md_L_law 1723 (.invokevirtual 136, 22, 18, 0, []) := io_virt (by decide +kernel) tb_X17_thrown (wb_7 239 rfl rfl) in_X17_thrown se_X17_thrown ⟨_, rfl, rfl⟩ pr_X17_thrown (by decide)
theorem r_L_law_1726 : IOK WB AD SR FW TB md_L_law 1726 (.iload 5, 0, 0, 0, []) := io_plain (by decide +kernel) rfl
theorem r_L_law_1728 : IOK WB AD SR FW TB md_L_law 1728 (.if_icmp .eq 5, 0, 0, 0, []) := io_plain (by decide +kernel) rfl
theorem r_L_law_1733 : IOK WB AD SR FW TB md_L_law 1733 (.iload 5, 0, 0, 0, []) := io_plain (by decide +kernel) rfl
theorem r_L_law_1735 : IOK WB AD SR FW TB md_L_law 1735 (.ifCond .ne 15, 0, 0, 0, []) := io_plain (by decide +kernel) rfl
theorem r_L_law_1750 : IOK WB AD SR FW TB md_L_law 1750 (.goto 512, 0, 0, 0, []) := io_plain (by decide +kernel) rfl
theorem r_L_law_1753 : IOK WB AD SR FW TB md_L_law 1753 (.aload_n 1, 0, 0, 0, []) := io_plain (by decide +kernel) rfl
theorem r_L_law_1754 : IOK WB AD SR FW TB md_L_law 1754 (.aload_n 0, 0, 0, 0, []) := io_plain (by decide +kernel) rfl
theorem r_L_law_1755 : IOK WB AD SR FW TB md_L_law 1755 (.iload 4, 0, 0, 0, []) := io_plain (by decide +kernel) rfl
theorem r_L_law_1757 : IOK WB AD SR FW TB md_L_law 1757 (.iconst 1, 0, 0, 0, []) := io_plain (by decide +kernel) rfl
theorem r_L_law_1758 : IOK WB AD SR FW TB md_L_law 1758 (.iadd, 0, 0, 0, []) := io_plain (by decide +kernel) rfl
theorem r_L_law_1759 : IOK WB AD SR FW TB md_L_law 1759 (.iaload, 0, 0, 0, []) := io_plain (by decide +kernel) rfl
theorem r_L_law_1760 : IOK WB AD SR FW TB md_L_law 1760 (.ifCond .eq 7, 0, 0, 0, []) := io_plain (by decide +kernel) rfl
theorem r_L_law_1763 : IOK WB AD SR FW TB md_L_law 1763 (.iconst 1, 0, 0, 0, []) := io_plain (by decide +kernel) rfl
theorem r_L_law_1764 : IOK WB AD SR FW TB md_L_law 1764 (.goto 4, 0, 0, 0, []) := io_plain (by decide +kernel) rfl
theorem r_L_law_1767 : IOK WB AD SR FW TB md_L_law 1767 (.iconst 0, 0, 0, 0, []) := io_plain (by decide +kernel) rfl
theorem r_L_law_1768 : IOK WB AD SR FW TB md_L_law 1768 (.aload_n 3, 0, 0, 0, []) := io_plain (by decide +kernel) rfl
theorem r_L_law_1769 : IOK WB AD SR FW TB md_L_law 1769 (.invokestatic 232, 72, 0, 0, []) := io_stat (by decide +kernel) tb_L_both (wb_6 159 rfl rfl) st_L_both pr_L_both
set_option maxRecDepth 100000 in
theorem ok_L_law_17 : ∀ q ∈ tl_L_law_17, IOK WB AD SR FW TB md_L_law q.1 q.2 := List.forall_mem_cons.mpr ⟨r_L_law_1678, List.forall_mem_cons.mpr ⟨r_L_law_1679, List.forall_mem_cons.mpr ⟨r_L_law_1682, List.forall_mem_cons.mpr ⟨r_L_law_1684, List.forall_mem_cons.mpr ⟨r_L_law_1689, List.forall_mem_cons.mpr ⟨r_L_law_1691, List.forall_mem_cons.mpr ⟨r_L_law_1694, List.forall_mem_cons.mpr ⟨r_L_law_1695, List.forall_mem_cons.mpr ⟨r_L_law_1696, List.forall_mem_cons.mpr ⟨r_L_law_1697, List.forall_mem_cons.mpr ⟨r_L_law_1699, List.forall_mem_cons.mpr ⟨r_L_law_1700, List.forall_mem_cons.mpr ⟨r_L_law_1701, List.forall_mem_cons.mpr ⟨r_L_law_1706, List.forall_mem_cons.mpr ⟨r_L_law_1709, List.forall_mem_cons.mpr ⟨r_L_law_1710, List.forall_mem_cons.mpr ⟨r_L_law_1711, List.forall_mem_cons.mpr ⟨r_L_law_1714, List.forall_mem_cons.mpr ⟨r_L_law_1716, List.forall_mem_cons.mpr ⟨r_L_law_1717, List.forall_mem_cons.mpr ⟨r_L_law_1720, List.forall_mem_cons.mpr ⟨r_L_law_1722, List.forall_mem_cons.mpr ⟨r_L_law_1723, List.forall_mem_cons.mpr ⟨r_L_law_1726, List.forall_mem_cons.mpr ⟨r_L_law_1728, List.forall_mem_cons.mpr ⟨r_L_law_1733, List.forall_mem_cons.mpr ⟨r_L_law_1735, List.forall_mem_cons.mpr ⟨r_L_law_1750, List.forall_mem_cons.mpr ⟨r_L_law_1753, List.forall_mem_cons.mpr ⟨r_L_law_1754, List.forall_mem_cons.mpr ⟨r_L_law_1755, List.forall_mem_cons.mpr ⟨r_L_law_1757, List.forall_mem_cons.mpr ⟨r_L_law_1758, List.forall_mem_cons.mpr ⟨r_L_law_1759, List.forall_mem_cons.mpr ⟨r_L_law_1760, List.forall_mem_cons.mpr ⟨r_L_law_1763, List.forall_mem_cons.mpr ⟨r_L_law_1764, List.forall_mem_cons.mpr ⟨r_L_law_1767, List.forall_mem_cons.mpr ⟨r_L_law_1768, List.forall_mem_cons.mpr ⟨r_L_law_1769, fun _ h => absurd h List.not_mem_nil⟩⟩⟩⟩⟩⟩⟩⟩⟩⟩⟩⟩⟩⟩⟩⟩⟩⟩⟩⟩⟩⟩⟩⟩⟩⟩⟩⟩⟩⟩⟩⟩⟩⟩⟩⟩⟩⟩⟩⟩
set_option maxRecDepth 100000 in
theorem tq_L_law_17 : tf_L_law_17 = tl_L_law_17.map (fun q => (q.1, stepOf NPf md_L_law q.2)) := rfl
theorem r_L_law_1772 : IOK WB AD SR FW TB md_L_law 1772 (.istore 5, 0, 0, 0, []) := io_plain (by decide +kernel) rfl
theorem r_L_law_1774 : IOK WB AD SR FW TB md_L_law 1774 (.aload_n 2, 0, 0, 0, []) := io_plain (by decide +kernel) rfl
theorem r_L_law_1775 : IOK WB AD SR FW TB md_L_law 1775 (.aload_n 0, 0, 0, 0, []) := io_plain (by decide +kernel) rfl
theorem r_L_law_1776 : IOK WB AD SR FW TB md_L_law 1776 (.iload 4, 0, 0, 0, []) := io_plain (by decide +kernel) rfl
theorem r_L_law_1778 : IOK WB AD SR FW TB md_L_law 1778 (.iconst 1, 0, 0, 0, []) := io_plain (by decide +kernel) rfl
theorem r_L_law_1779 : IOK WB AD SR FW TB md_L_law 1779 (.iadd, 0, 0, 0, []) := io_plain (by decide +kernel) rfl
theorem r_L_law_1780 : IOK WB AD SR FW TB md_L_law 1780 (.iaload, 0, 0, 0, []) := io_plain (by decide +kernel) rfl
theorem r_L_law_1781 : IOK WB AD SR FW TB md_L_law 1781 (.ifCond .eq 7, 0, 0, 0, []) := io_plain (by decide +kernel) rfl
theorem r_L_law_1784 : IOK WB AD SR FW TB md_L_law 1784 (.iconst 1, 0, 0, 0, []) := io_plain (by decide +kernel) rfl
theorem r_L_law_1785 : IOK WB AD SR FW TB md_L_law 1785 (.goto 4, 0, 0, 0, []) := io_plain (by decide +kernel) rfl
theorem r_L_law_1788 : IOK WB AD SR FW TB md_L_law 1788 (.iconst 0, 0, 0, 0, []) := io_plain (by decide +kernel) rfl
theorem r_L_law_1789 : IOK WB AD SR FW TB md_L_law 1789 (.invokevirtual 235, 48, 18, 0, []) := io_virt (by decide +kernel) tb_X17_both (wb_9 181 rfl rfl) in_X17_both se_X17_both ⟨_, rfl, rfl⟩ pr_X17_both (by decide)
theorem r_L_law_1792 : IOK WB AD SR FW TB md_L_law 1792 (.istore 6, 0, 0, 0, []) := io_plain (by decide +kernel) rfl
theorem r_L_law_1794 : IOK WB AD SR FW TB md_L_law 1794 (.aload_n 2, 0, 0, 0, []) := io_plain (by decide +kernel) rfl
theorem r_L_law_1795 : IOK WB AD SR FW TB md_L_law 1795 (.invokevirtual 136, 22, 18, 0, []) := io_virt (by decide +kernel) tb_X17_thrown (wb_7 239 rfl rfl) in_X17_thrown se_X17_thrown ⟨_, rfl, rfl⟩ pr_X17_thrown (by decide)
theorem r_L_law_1798 : IOK WB AD SR FW TB md_L_law 1798 (.iload 5, 0, 0, 0, []) := io_plain (by decide +kernel) rfl
theorem r_L_law_1800 : IOK WB AD SR FW TB md_L_law 1800 (.if_icmp .eq 5, 0, 0, 0, []) := io_plain (by decide +kernel) rfl
theorem r_L_law_1805 : IOK WB AD SR FW TB md_L_law 1805 (.iload 5, 0, 0, 0, []) := io_plain (by decide +kernel) rfl
theorem r_L_law_1807 : IOK WB AD SR FW TB md_L_law 1807 (.ifCond .ne 15, 0, 0, 0, []) := io_plain (by decide +kernel) rfl
theorem r_L_law_1822 : IOK WB AD SR FW TB md_L_law 1822 (.goto 440, 0, 0, 0, []) := io_plain (by decide +kernel) rfl
theorem r_L_law_1825 : IOK WB AD SR FW TB md_L_law 1825 (.aload_n 1, 0, 0, 0, []) := io_plain (by decide +kernel) rfl
theorem r_L_law_1826 : IOK WB AD SR FW TB md_L_law 1826 (.aload_n 3, 0, 0, 0, []) := io_plain (by decide +kernel) rfl
theorem r_L_law_1827 : IOK WB AD SR FW TB md_L_law 1827 (.invokestatic 236, 142, 0, 0, []) := io_stat (by decide +kernel) tb_L_many (wb_6 180 rfl rfl) st_L_many pr_L_many
theorem r_L_law_1830 : IOK WB AD SR FW TB md_L_law 1830 (.istore 5, 0, 0, 0, []) := io_plain (by decide +kernel) rfl
theorem r_L_law_1832 : IOK WB AD SR FW TB md_L_law 1832 (.aload_n 2, 0, 0, 0, []) := io_plain (by decide +kernel) rfl
theorem r_L_law_1833 : IOK WB AD SR FW TB md_L_law 1833 (.invokevirtual 238, 91, 18, 0, []) := io_virt (by decide +kernel) tb_X17_many (wb_9 185 rfl rfl) in_X17_many se_X17_many ⟨_, rfl, rfl⟩ pr_X17_many (by decide)
theorem r_L_law_1836 : IOK WB AD SR FW TB md_L_law 1836 (.istore 6, 0, 0, 0, []) := io_plain (by decide +kernel) rfl
theorem r_L_law_1838 : IOK WB AD SR FW TB md_L_law 1838 (.aload_n 2, 0, 0, 0, []) := io_plain (by decide +kernel) rfl
theorem r_L_law_1839 : IOK WB AD SR FW TB md_L_law 1839 (.invokevirtual 136, 22, 18, 0, []) := io_virt (by decide +kernel) tb_X17_thrown (wb_7 239 rfl rfl) in_X17_thrown se_X17_thrown ⟨_, rfl, rfl⟩ pr_X17_thrown (by decide)
theorem r_L_law_1842 : IOK WB AD SR FW TB md_L_law 1842 (.iload 5, 0, 0, 0, []) := io_plain (by decide +kernel) rfl
theorem r_L_law_1844 : IOK WB AD SR FW TB md_L_law 1844 (.if_icmp .eq 5, 0, 0, 0, []) := io_plain (by decide +kernel) rfl
theorem r_L_law_1849 : IOK WB AD SR FW TB md_L_law 1849 (.iload 5, 0, 0, 0, []) := io_plain (by decide +kernel) rfl
theorem r_L_law_1851 : IOK WB AD SR FW TB md_L_law 1851 (.ifCond .ne 15, 0, 0, 0, []) := io_plain (by decide +kernel) rfl
theorem r_L_law_1866 : IOK WB AD SR FW TB md_L_law 1866 (.goto 396, 0, 0, 0, []) := io_plain (by decide +kernel) rfl
theorem r_L_law_1869 : IOK WB AD SR FW TB md_L_law 1869 (.aload_n 1, 0, 0, 0, []) := io_plain (by decide +kernel) rfl
theorem r_L_law_1870 : IOK WB AD SR FW TB md_L_law 1870 (.aload_n 3, 0, 0, 0, []) := io_plain (by decide +kernel) rfl
theorem r_L_law_1871 : IOK WB AD SR FW TB md_L_law 1871 (.invokestatic 239, 143, 0, 0, []) := io_stat (by decide +kernel) tb_L_run (wb_6 193 rfl rfl) st_L_run pr_L_run
theorem r_L_law_1874 : IOK WB AD SR FW TB md_L_law 1874 (.istore 5, 0, 0, 0, []) := io_plain (by decide +kernel) rfl
theorem r_L_law_1876 : IOK WB AD SR FW TB md_L_law 1876 (.aload_n 2, 0, 0, 0, []) := io_plain (by decide +kernel) rfl
theorem r_L_law_1877 : IOK WB AD SR FW TB md_L_law 1877 (.invokevirtual 241, 104, 18, 0, []) := io_virt (by decide +kernel) tb_X17_run (wb_9 189 rfl rfl) in_X17_run se_X17_run ⟨_, rfl, rfl⟩ pr_X17_run (by decide)
set_option maxRecDepth 100000 in
theorem ok_L_law_18 : ∀ q ∈ tl_L_law_18, IOK WB AD SR FW TB md_L_law q.1 q.2 := List.forall_mem_cons.mpr ⟨r_L_law_1772, List.forall_mem_cons.mpr ⟨r_L_law_1774, List.forall_mem_cons.mpr ⟨r_L_law_1775, List.forall_mem_cons.mpr ⟨r_L_law_1776, List.forall_mem_cons.mpr ⟨r_L_law_1778, List.forall_mem_cons.mpr ⟨r_L_law_1779, List.forall_mem_cons.mpr ⟨r_L_law_1780, List.forall_mem_cons.mpr ⟨r_L_law_1781, List.forall_mem_cons.mpr ⟨r_L_law_1784, List.forall_mem_cons.mpr ⟨r_L_law_1785, List.forall_mem_cons.mpr ⟨r_L_law_1788, List.forall_mem_cons.mpr ⟨r_L_law_1789, List.forall_mem_cons.mpr ⟨r_L_law_1792, List.forall_mem_cons.mpr ⟨r_L_law_1794, List.forall_mem_cons.mpr ⟨r_L_law_1795, List.forall_mem_cons.mpr ⟨r_L_law_1798, List.forall_mem_cons.mpr ⟨r_L_law_1800, List.forall_mem_cons.mpr ⟨r_L_law_1805, List.forall_mem_cons.mpr ⟨r_L_law_1807, List.forall_mem_cons.mpr ⟨r_L_law_1822, List.forall_mem_cons.mpr ⟨r_L_law_1825, List.forall_mem_cons.mpr ⟨r_L_law_1826, List.forall_mem_cons.mpr ⟨r_L_law_1827, List.forall_mem_cons.mpr ⟨r_L_law_1830, List.forall_mem_cons.mpr ⟨r_L_law_1832, List.forall_mem_cons.mpr ⟨r_L_law_1833, List.forall_mem_cons.mpr ⟨r_L_law_1836, List.forall_mem_cons.mpr ⟨r_L_law_1838, List.forall_mem_cons.mpr ⟨r_L_law_1839, List.forall_mem_cons.mpr ⟨r_L_law_1842, List.forall_mem_cons.mpr ⟨r_L_law_1844, List.forall_mem_cons.mpr ⟨r_L_law_1849, List.forall_mem_cons.mpr ⟨r_L_law_1851, List.forall_mem_cons.mpr ⟨r_L_law_1866, List.forall_mem_cons.mpr ⟨r_L_law_1869, List.forall_mem_cons.mpr ⟨r_L_law_1870, List.forall_mem_cons.mpr ⟨r_L_law_1871, List.forall_mem_cons.mpr ⟨r_L_law_1874, List.forall_mem_cons.mpr ⟨r_L_law_1876, List.forall_mem_cons.mpr ⟨r_L_law_1877, fun _ h => absurd h List.not_mem_nil⟩⟩⟩⟩⟩⟩⟩⟩⟩⟩⟩⟩⟩⟩⟩⟩⟩⟩⟩⟩⟩⟩⟩⟩⟩⟩⟩⟩⟩⟩⟩⟩⟩⟩⟩⟩⟩⟩⟩⟩
set_option maxRecDepth 100000 in
theorem tq_L_law_18 : tf_L_law_18 = tl_L_law_18.map (fun q => (q.1, stepOf NPf md_L_law q.2)) := rfl
theorem r_L_law_1880 : IOK WB AD SR FW TB md_L_law 1880 (.istore 6, 0, 0, 0, []) := io_plain (by decide +kernel) rfl
theorem r_L_law_1882 : IOK WB AD SR FW TB md_L_law 1882 (.aload_n 2, 0, 0, 0, []) := io_plain (by decide +kernel) rfl
theorem r_L_law_1883 : IOK WB AD SR FW TB md_L_law 1883 (.invokevirtual 136, 22, 18, 0, []) := io_virt (by decide +kernel) tb_X17_thrown (wb_7 239 rfl rfl) in_X17_thrown se_X17_thrown ⟨_, rfl, rfl⟩ pr_X17_thrown (by decide)
theorem r_L_law_1886 : IOK WB AD SR FW TB md_L_law 1886 (.iload 5, 0, 0, 0, []) := io_plain (by decide +kernel) rfl
theorem r_L_law_1888 : IOK WB AD SR FW TB md_L_law 1888 (.if_icmp .eq 5, 0, 0, 0, []) := io_plain (by decide +kernel) rfl
theorem r_L_law_1893 : IOK WB AD SR FW TB md_L_law 1893 (.iload 5, 0, 0, 0, []) := io_plain (by decide +kernel) rfl
theorem r_L_law_1895 : IOK WB AD SR FW TB md_L_law 1895 (.ifCond .ne 15, 0, 0, 0, []) := io_plain (by decide +kernel) rfl
theorem r_L_law_1910 : IOK WB AD SR FW TB md_L_law 1910 (.goto 352, 0, 0, 0, []) := io_plain (by decide +kernel) rfl
theorem r_L_law_1913 : IOK WB AD SR FW TB md_L_law 1913 (.aload_n 1, 0, 0, 0, []) := io_plain (by decide +kernel) rfl
theorem r_L_law_1914 : IOK WB AD SR FW TB md_L_law 1914 (.invokevirtual 242, 124, 11, 0, []) := io_virt (by decide +kernel) tb_X10_pairs (wb_3 124 rfl rfl) in_X10_pairs se_X10_pairs ⟨_, rfl, rfl⟩ pr_X10_pairs (by decide)
theorem r_L_law_1917 : IOK WB AD SR FW TB md_L_law 1917 (.aload_n 2, 0, 0, 0, []) := io_plain (by decide +kernel) rfl
theorem r_L_law_1918 : IOK WB AD SR FW TB md_L_law 1918 (.invokevirtual 245, 132, 18, 0, []) := io_virt (by decide +kernel) tb_X17_pairs (wb_9 205 rfl rfl) in_X17_pairs se_X17_pairs ⟨_, rfl, rfl⟩ pr_X17_pairs (by decide)
theorem r_L_law_1921 : IOK WB AD SR FW TB md_L_law 1921 (.if_icmp .eq 341, 0, 0, 0, []) := io_plain (by decide +kernel) rfl
theorem r_L_law_1926 : IOK WB AD SR FW TB md_L_law 1926 (.aload_n 1, 0, 0, 0, []) := io_plain (by decide +kernel) rfl
theorem r_L_law_1927 : IOK WB AD SR FW TB md_L_law 1927 (.aload_n 0, 0, 0, 0, []) := io_plain (by decide +kernel) rfl
theorem r_L_law_1928 : IOK WB AD SR FW TB md_L_law 1928 (.iload 4, 0, 0, 0, []) := io_plain (by decide +kernel) rfl
theorem r_L_law_1930 : IOK WB AD SR FW TB md_L_law 1930 (.iconst 1, 0, 0, 0, []) := io_plain (by decide +kernel) rfl
theorem r_L_law_1931 : IOK WB AD SR FW TB md_L_law 1931 (.iadd, 0, 0, 0, []) := io_plain (by decide +kernel) rfl
theorem r_L_law_1932 : IOK WB AD SR FW TB md_L_law 1932 (.iaload, 0, 0, 0, []) := io_plain (by decide +kernel) rfl
theorem r_L_law_1933 : IOK WB AD SR FW TB md_L_law 1933 (.aload_n 3, 0, 0, 0, []) := io_plain (by decide +kernel) rfl
theorem r_L_law_1934 : IOK WB AD SR FW TB md_L_law 1934 (.invokestatic 246, 96, 0, 0, []) := io_stat (by decide +kernel) tb_L_joins (wb_6 231 rfl rfl) st_L_joins pr_L_joins
theorem r_L_law_1937 : IOK WB AD SR FW TB md_L_law 1937 (.istore 5, 0, 0, 0, []) := io_plain (by decide +kernel) rfl
theorem r_L_law_1939 : IOK WB AD SR FW TB md_L_law 1939 (.aload_n 2, 0, 0, 0, []) := io_plain (by decide +kernel) rfl
theorem r_L_law_1940 : IOK WB AD SR FW TB md_L_law 1940 (.aload_n 0, 0, 0, 0, []) := io_plain (by decide +kernel) rfl
theorem r_L_law_1941 : IOK WB AD SR FW TB md_L_law 1941 (.iload 4, 0, 0, 0, []) := io_plain (by decide +kernel) rfl
theorem r_L_law_1943 : IOK WB AD SR FW TB md_L_law 1943 (.iconst 1, 0, 0, 0, []) := io_plain (by decide +kernel) rfl
theorem r_L_law_1944 : IOK WB AD SR FW TB md_L_law 1944 (.iadd, 0, 0, 0, []) := io_plain (by decide +kernel) rfl
theorem r_L_law_1945 : IOK WB AD SR FW TB md_L_law 1945 (.iaload, 0, 0, 0, []) := io_plain (by decide +kernel) rfl
theorem r_L_law_1946 : IOK WB AD SR FW TB md_L_law 1946 (.invokevirtual 248, 55, 18, 0, []) := io_virt (by decide +kernel) tb_X17_joins (wb_10 19 rfl rfl) in_X17_joins se_X17_joins ⟨_, rfl, rfl⟩ pr_X17_joins (by decide)
theorem r_L_law_1949 : IOK WB AD SR FW TB md_L_law 1949 (.istore 6, 0, 0, 0, []) := io_plain (by decide +kernel) rfl
theorem r_L_law_1951 : IOK WB AD SR FW TB md_L_law 1951 (.aload_n 2, 0, 0, 0, []) := io_plain (by decide +kernel) rfl
theorem r_L_law_1952 : IOK WB AD SR FW TB md_L_law 1952 (.invokevirtual 136, 22, 18, 0, []) := io_virt (by decide +kernel) tb_X17_thrown (wb_7 239 rfl rfl) in_X17_thrown se_X17_thrown ⟨_, rfl, rfl⟩ pr_X17_thrown (by decide)
theorem r_L_law_1955 : IOK WB AD SR FW TB md_L_law 1955 (.iload 5, 0, 0, 0, []) := io_plain (by decide +kernel) rfl
theorem r_L_law_1957 : IOK WB AD SR FW TB md_L_law 1957 (.if_icmp .eq 5, 0, 0, 0, []) := io_plain (by decide +kernel) rfl
theorem r_L_law_1962 : IOK WB AD SR FW TB md_L_law 1962 (.iload 5, 0, 0, 0, []) := io_plain (by decide +kernel) rfl
theorem r_L_law_1964 : IOK WB AD SR FW TB md_L_law 1964 (.ifCond .ne 15, 0, 0, 0, []) := io_plain (by decide +kernel) rfl
theorem r_L_law_1979 : IOK WB AD SR FW TB md_L_law 1979 (.goto 283, 0, 0, 0, []) := io_plain (by decide +kernel) rfl
theorem r_L_law_1982 : IOK WB AD SR FW TB md_L_law 1982 (.aload_n 1, 0, 0, 0, []) := io_plain (by decide +kernel) rfl
theorem r_L_law_1983 : IOK WB AD SR FW TB md_L_law 1983 (.aload_n 0, 0, 0, 0, []) := io_plain (by decide +kernel) rfl
theorem r_L_law_1984 : IOK WB AD SR FW TB md_L_law 1984 (.iload 4, 0, 0, 0, []) := io_plain (by decide +kernel) rfl
set_option maxRecDepth 100000 in
theorem ok_L_law_19 : ∀ q ∈ tl_L_law_19, IOK WB AD SR FW TB md_L_law q.1 q.2 := List.forall_mem_cons.mpr ⟨r_L_law_1880, List.forall_mem_cons.mpr ⟨r_L_law_1882, List.forall_mem_cons.mpr ⟨r_L_law_1883, List.forall_mem_cons.mpr ⟨r_L_law_1886, List.forall_mem_cons.mpr ⟨r_L_law_1888, List.forall_mem_cons.mpr ⟨r_L_law_1893, List.forall_mem_cons.mpr ⟨r_L_law_1895, List.forall_mem_cons.mpr ⟨r_L_law_1910, List.forall_mem_cons.mpr ⟨r_L_law_1913, List.forall_mem_cons.mpr ⟨r_L_law_1914, List.forall_mem_cons.mpr ⟨r_L_law_1917, List.forall_mem_cons.mpr ⟨r_L_law_1918, List.forall_mem_cons.mpr ⟨r_L_law_1921, List.forall_mem_cons.mpr ⟨r_L_law_1926, List.forall_mem_cons.mpr ⟨r_L_law_1927, List.forall_mem_cons.mpr ⟨r_L_law_1928, List.forall_mem_cons.mpr ⟨r_L_law_1930, List.forall_mem_cons.mpr ⟨r_L_law_1931, List.forall_mem_cons.mpr ⟨r_L_law_1932, List.forall_mem_cons.mpr ⟨r_L_law_1933, List.forall_mem_cons.mpr ⟨r_L_law_1934, List.forall_mem_cons.mpr ⟨r_L_law_1937, List.forall_mem_cons.mpr ⟨r_L_law_1939, List.forall_mem_cons.mpr ⟨r_L_law_1940, List.forall_mem_cons.mpr ⟨r_L_law_1941, List.forall_mem_cons.mpr ⟨r_L_law_1943, List.forall_mem_cons.mpr ⟨r_L_law_1944, List.forall_mem_cons.mpr ⟨r_L_law_1945, List.forall_mem_cons.mpr ⟨r_L_law_1946, List.forall_mem_cons.mpr ⟨r_L_law_1949, List.forall_mem_cons.mpr ⟨r_L_law_1951, List.forall_mem_cons.mpr ⟨r_L_law_1952, List.forall_mem_cons.mpr ⟨r_L_law_1955, List.forall_mem_cons.mpr ⟨r_L_law_1957, List.forall_mem_cons.mpr ⟨r_L_law_1962, List.forall_mem_cons.mpr ⟨r_L_law_1964, List.forall_mem_cons.mpr ⟨r_L_law_1979, List.forall_mem_cons.mpr ⟨r_L_law_1982, List.forall_mem_cons.mpr ⟨r_L_law_1983, List.forall_mem_cons.mpr ⟨r_L_law_1984, fun _ h => absurd h List.not_mem_nil⟩⟩⟩⟩⟩⟩⟩⟩⟩⟩⟩⟩⟩⟩⟩⟩⟩⟩⟩⟩⟩⟩⟩⟩⟩⟩⟩⟩⟩⟩⟩⟩⟩⟩⟩⟩⟩⟩⟩⟩
set_option maxRecDepth 100000 in
theorem tq_L_law_19 : tf_L_law_19 = tl_L_law_19.map (fun q => (q.1, stepOf NPf md_L_law q.2)) := rfl
theorem r_L_law_1986 : IOK WB AD SR FW TB md_L_law 1986 (.iconst 1, 0, 0, 0, []) := io_plain (by decide +kernel) rfl
theorem r_L_law_1987 : IOK WB AD SR FW TB md_L_law 1987 (.iadd, 0, 0, 0, []) := io_plain (by decide +kernel) rfl
theorem r_L_law_1988 : IOK WB AD SR FW TB md_L_law 1988 (.iaload, 0, 0, 0, []) := io_plain (by decide +kernel) rfl
theorem r_L_law_1989 : IOK WB AD SR FW TB md_L_law 1989 (.aload_n 0, 0, 0, 0, []) := io_plain (by decide +kernel) rfl
theorem r_L_law_1990 : IOK WB AD SR FW TB md_L_law 1990 (.iload 4, 0, 0, 0, []) := io_plain (by decide +kernel) rfl
theorem r_L_law_1992 : IOK WB AD SR FW TB md_L_law 1992 (.iconst 2, 0, 0, 0, []) := io_plain (by decide +kernel) rfl
theorem r_L_law_1993 : IOK WB AD SR FW TB md_L_law 1993 (.iadd, 0, 0, 0, []) := io_plain (by decide +kernel) rfl
theorem r_L_law_1994 : IOK WB AD SR FW TB md_L_law 1994 (.iaload, 0, 0, 0, []) := io_plain (by decide +kernel) rfl
theorem r_L_law_1995 : IOK WB AD SR FW TB md_L_law 1995 (.aload_n 0, 0, 0, 0, []) := io_plain (by decide +kernel) rfl
theorem r_L_law_1996 : IOK WB AD SR FW TB md_L_law 1996 (.iload 4, 0, 0, 0, []) := io_plain (by decide +kernel) rfl
theorem r_L_law_1998 : IOK WB AD SR FW TB md_L_law 1998 (.iconst 3, 0, 0, 0, []) := io_plain (by decide +kernel) rfl
theorem r_L_law_1999 : IOK WB AD SR FW TB md_L_law 1999 (.iadd, 0, 0, 0, []) := io_plain (by decide +kernel) rfl
theorem r_L_law_2000 : IOK WB AD SR FW TB md_L_law 2000 (.iaload, 0, 0, 0, []) := io_plain (by decide +kernel) rfl
theorem r_L_law_2001 : IOK WB AD SR FW TB md_L_law 2001 (.aload_n 3, 0, 0, 0, []) := io_plain (by decide +kernel) rfl
theorem r_L_law_2002 : IOK WB AD SR FW TB md_L_law 2002 (.invokestatic 249, 79, 0, 0, []) := io_stat (by decide +kernel) tb_L_weight (wb_6 239 rfl rfl) st_L_weight pr_L_weight
theorem r_L_law_2005 : IOK WB AD SR FW TB md_L_law 2005 (.istore 5, 0, 0, 0, []) := io_plain (by decide +kernel) rfl
theorem r_L_law_2007 : IOK WB AD SR FW TB md_L_law 2007 (.aload_n 2, 0, 0, 0, []) := io_plain (by decide +kernel) rfl
theorem r_L_law_2008 : IOK WB AD SR FW TB md_L_law 2008 (.aload_n 0, 0, 0, 0, []) := io_plain (by decide +kernel) rfl
theorem r_L_law_2009 : IOK WB AD SR FW TB md_L_law 2009 (.iload 4, 0, 0, 0, []) := io_plain (by decide +kernel) rfl
theorem r_L_law_2011 : IOK WB AD SR FW TB md_L_law 2011 (.iconst 1, 0, 0, 0, []) := io_plain (by decide +kernel) rfl
theorem r_L_law_2012 : IOK WB AD SR FW TB md_L_law 2012 (.iadd, 0, 0, 0, []) := io_plain (by decide +kernel) rfl
theorem r_L_law_2013 : IOK WB AD SR FW TB md_L_law 2013 (.iaload, 0, 0, 0, []) := io_plain (by decide +kernel) rfl
theorem r_L_law_2014 : IOK WB AD SR FW TB md_L_law 2014 (.aload_n 0, 0, 0, 0, []) := io_plain (by decide +kernel) rfl
theorem r_L_law_2015 : IOK WB AD SR FW TB md_L_law 2015 (.iload 4, 0, 0, 0, []) := io_plain (by decide +kernel) rfl
theorem r_L_law_2017 : IOK WB AD SR FW TB md_L_law 2017 (.iconst 2, 0, 0, 0, []) := io_plain (by decide +kernel) rfl
theorem r_L_law_2018 : IOK WB AD SR FW TB md_L_law 2018 (.iadd, 0, 0, 0, []) := io_plain (by decide +kernel) rfl
theorem r_L_law_2019 : IOK WB AD SR FW TB md_L_law 2019 (.iaload, 0, 0, 0, []) := io_plain (by decide +kernel) rfl
theorem r_L_law_2020 : IOK WB AD SR FW TB md_L_law 2020 (.aload_n 0, 0, 0, 0, []) := io_plain (by decide +kernel) rfl
theorem r_L_law_2021 : IOK WB AD SR FW TB md_L_law 2021 (.iload 4, 0, 0, 0, []) := io_plain (by decide +kernel) rfl
theorem r_L_law_2023 : IOK WB AD SR FW TB md_L_law 2023 (.iconst 3, 0, 0, 0, []) := io_plain (by decide +kernel) rfl
theorem r_L_law_2024 : IOK WB AD SR FW TB md_L_law 2024 (.iadd, 0, 0, 0, []) := io_plain (by decide +kernel) rfl
theorem r_L_law_2025 : IOK WB AD SR FW TB md_L_law 2025 (.iaload, 0, 0, 0, []) := io_plain (by decide +kernel) rfl
theorem r_L_law_2026 : IOK WB AD SR FW TB md_L_law 2026 (.invokevirtual 251, 51, 18, 0, []) := io_virt (by decide +kernel) tb_X17_weight (wb_10 27 rfl rfl) in_X17_weight se_X17_weight ⟨_, rfl, rfl⟩ pr_X17_weight (by decide)
theorem r_L_law_2029 : IOK WB AD SR FW TB md_L_law 2029 (.istore 6, 0, 0, 0, []) := io_plain (by decide +kernel) rfl
theorem r_L_law_2031 : IOK WB AD SR FW TB md_L_law 2031 (.aload_n 2, 0, 0, 0, []) := io_plain (by decide +kernel) rfl
theorem r_L_law_2032 : IOK WB AD SR FW TB md_L_law 2032 (.invokevirtual 136, 22, 18, 0, []) := io_virt (by decide +kernel) tb_X17_thrown (wb_7 239 rfl rfl) in_X17_thrown se_X17_thrown ⟨_, rfl, rfl⟩ pr_X17_thrown (by decide)
theorem r_L_law_2035 : IOK WB AD SR FW TB md_L_law 2035 (.iload 5, 0, 0, 0, []) := io_plain (by decide +kernel) rfl
theorem r_L_law_2037 : IOK WB AD SR FW TB md_L_law 2037 (.if_icmp .eq 5, 0, 0, 0, []) := io_plain (by decide +kernel) rfl
theorem r_L_law_2042 : IOK WB AD SR FW TB md_L_law 2042 (.iload 5, 0, 0, 0, []) := io_plain (by decide +kernel) rfl
theorem r_L_law_2044 : IOK WB AD SR FW TB md_L_law 2044 (.ifCond .ne 15, 0, 0, 0, []) := io_plain (by decide +kernel) rfl
set_option maxRecDepth 100000 in
theorem ok_L_law_20 : ∀ q ∈ tl_L_law_20, IOK WB AD SR FW TB md_L_law q.1 q.2 := List.forall_mem_cons.mpr ⟨r_L_law_1986, List.forall_mem_cons.mpr ⟨r_L_law_1987, List.forall_mem_cons.mpr ⟨r_L_law_1988, List.forall_mem_cons.mpr ⟨r_L_law_1989, List.forall_mem_cons.mpr ⟨r_L_law_1990, List.forall_mem_cons.mpr ⟨r_L_law_1992, List.forall_mem_cons.mpr ⟨r_L_law_1993, List.forall_mem_cons.mpr ⟨r_L_law_1994, List.forall_mem_cons.mpr ⟨r_L_law_1995, List.forall_mem_cons.mpr ⟨r_L_law_1996, List.forall_mem_cons.mpr ⟨r_L_law_1998, List.forall_mem_cons.mpr ⟨r_L_law_1999, List.forall_mem_cons.mpr ⟨r_L_law_2000, List.forall_mem_cons.mpr ⟨r_L_law_2001, List.forall_mem_cons.mpr ⟨r_L_law_2002, List.forall_mem_cons.mpr ⟨r_L_law_2005, List.forall_mem_cons.mpr ⟨r_L_law_2007, List.forall_mem_cons.mpr ⟨r_L_law_2008, List.forall_mem_cons.mpr ⟨r_L_law_2009, List.forall_mem_cons.mpr ⟨r_L_law_2011, List.forall_mem_cons.mpr ⟨r_L_law_2012, List.forall_mem_cons.mpr ⟨r_L_law_2013, List.forall_mem_cons.mpr ⟨r_L_law_2014, List.forall_mem_cons.mpr ⟨r_L_law_2015, List.forall_mem_cons.mpr ⟨r_L_law_2017, List.forall_mem_cons.mpr ⟨r_L_law_2018, List.forall_mem_cons.mpr ⟨r_L_law_2019, List.forall_mem_cons.mpr ⟨r_L_law_2020, List.forall_mem_cons.mpr ⟨r_L_law_2021, List.forall_mem_cons.mpr ⟨r_L_law_2023, List.forall_mem_cons.mpr ⟨r_L_law_2024, List.forall_mem_cons.mpr ⟨r_L_law_2025, List.forall_mem_cons.mpr ⟨r_L_law_2026, List.forall_mem_cons.mpr ⟨r_L_law_2029, List.forall_mem_cons.mpr ⟨r_L_law_2031, List.forall_mem_cons.mpr ⟨r_L_law_2032, List.forall_mem_cons.mpr ⟨r_L_law_2035, List.forall_mem_cons.mpr ⟨r_L_law_2037, List.forall_mem_cons.mpr ⟨r_L_law_2042, List.forall_mem_cons.mpr ⟨r_L_law_2044, fun _ h => absurd h List.not_mem_nil⟩⟩⟩⟩⟩⟩⟩⟩⟩⟩⟩⟩⟩⟩⟩⟩⟩⟩⟩⟩⟩⟩⟩⟩⟩⟩⟩⟩⟩⟩⟩⟩⟩⟩⟩⟩⟩⟩⟩⟩
set_option maxRecDepth 100000 in
theorem tq_L_law_20 : tf_L_law_20 = tl_L_law_20.map (fun q => (q.1, stepOf NPf md_L_law q.2)) := rfl
theorem r_L_law_2059 : IOK WB AD SR FW TB md_L_law 2059 (.goto 203, 0, 0, 0, []) := io_plain (by decide +kernel) rfl
theorem r_L_law_2062 : IOK WB AD SR FW TB md_L_law 2062 (.aload_n 1, 0, 0, 0, []) := io_plain (by decide +kernel) rfl
theorem r_L_law_2063 : IOK WB AD SR FW TB md_L_law 2063 (.aload_n 0, 0, 0, 0, []) := io_plain (by decide +kernel) rfl
theorem r_L_law_2064 : IOK WB AD SR FW TB md_L_law 2064 (.iload 4, 0, 0, 0, []) := io_plain (by decide +kernel) rfl
theorem r_L_law_2066 : IOK WB AD SR FW TB md_L_law 2066 (.iconst 1, 0, 0, 0, []) := io_plain (by decide +kernel) rfl
theorem r_L_law_2067 : IOK WB AD SR FW TB md_L_law 2067 (.iadd, 0, 0, 0, []) := io_plain (by decide +kernel) rfl
theorem r_L_law_2068 : IOK WB AD SR FW TB md_L_law 2068 (.iaload, 0, 0, 0, []) := io_plain (by decide +kernel) rfl
theorem r_L_law_2069 : IOK WB AD SR FW TB md_L_law 2069 (.aload_n 3, 0, 0, 0, []) := io_plain (by decide +kernel) rfl
theorem r_L_law_2070 : IOK WB AD SR FW TB md_L_law 2070 (.invokestatic 252, 97, 0, 0, []) := io_stat (by decide +kernel) tb_L_descends (wb_7 8 rfl rfl) st_L_descends pr_L_descends
theorem r_L_law_2073 : IOK WB AD SR FW TB md_L_law 2073 (.istore 5, 0, 0, 0, []) := io_plain (by decide +kernel) rfl
theorem r_L_law_2075 : IOK WB AD SR FW TB md_L_law 2075 (.aload_n 2, 0, 0, 0, []) := io_plain (by decide +kernel) rfl
theorem r_L_law_2076 : IOK WB AD SR FW TB md_L_law 2076 (.aload_n 0, 0, 0, 0, []) := io_plain (by decide +kernel) rfl
theorem r_L_law_2077 : IOK WB AD SR FW TB md_L_law 2077 (.iload 4, 0, 0, 0, []) := io_plain (by decide +kernel) rfl
theorem r_L_law_2079 : IOK WB AD SR FW TB md_L_law 2079 (.iconst 1, 0, 0, 0, []) := io_plain (by decide +kernel) rfl
theorem r_L_law_2080 : IOK WB AD SR FW TB md_L_law 2080 (.iadd, 0, 0, 0, []) := io_plain (by decide +kernel) rfl
theorem r_L_law_2081 : IOK WB AD SR FW TB md_L_law 2081 (.iaload, 0, 0, 0, []) := io_plain (by decide +kernel) rfl
theorem r_L_law_2082 : IOK WB AD SR FW TB md_L_law 2082 (.invokevirtual 254, 60, 18, 0, []) := io_virt (by decide +kernel) tb_X17_descends (wb_10 31 rfl rfl) in_X17_descends se_X17_descends ⟨_, rfl, rfl⟩ pr_X17_descends (by decide)
theorem r_L_law_2085 : IOK WB AD SR FW TB md_L_law 2085 (.istore 6, 0, 0, 0, []) := io_plain (by decide +kernel) rfl
theorem r_L_law_2087 : IOK WB AD SR FW TB md_L_law 2087 (.aload_n 2, 0, 0, 0, []) := io_plain (by decide +kernel) rfl
theorem r_L_law_2088 : IOK WB AD SR FW TB md_L_law 2088 (.invokevirtual 136, 22, 18, 0, []) := io_virt (by decide +kernel) tb_X17_thrown (wb_7 239 rfl rfl) in_X17_thrown se_X17_thrown ⟨_, rfl, rfl⟩ pr_X17_thrown (by decide)
theorem r_L_law_2091 : IOK WB AD SR FW TB md_L_law 2091 (.iload 5, 0, 0, 0, []) := io_plain (by decide +kernel) rfl
theorem r_L_law_2093 : IOK WB AD SR FW TB md_L_law 2093 (.if_icmp .eq 5, 0, 0, 0, []) := io_plain (by decide +kernel) rfl
theorem r_L_law_2098 : IOK WB AD SR FW TB md_L_law 2098 (.iload 5, 0, 0, 0, []) := io_plain (by decide +kernel) rfl
theorem r_L_law_2100 : IOK WB AD SR FW TB md_L_law 2100 (.ifCond .ne 22, 0, 0, 0, []) := io_plain (by decide +kernel) rfl
theorem r_L_law_2122 : IOK WB AD SR FW TB md_L_law 2122 (.goto 140, 0, 0, 0, []) := io_plain (by decide +kernel) rfl
theorem r_L_law_2125 : IOK WB AD SR FW TB md_L_law 2125 (.aload_n 1, 0, 0, 0, []) := io_plain (by decide +kernel) rfl
theorem r_L_law_2126 : IOK WB AD SR FW TB md_L_law 2126 (.invokevirtual 255, 47, 11, 0, []) := io_virt (by decide +kernel) tb_X10_complete (wb_3 202 rfl rfl) in_X10_complete se_X10_complete ⟨_, rfl, rfl⟩ pr_X10_complete (by decide)
theorem r_L_law_2129 : IOK WB AD SR FW TB md_L_law 2129 (.aload_n 2, 0, 0, 0, []) := io_plain (by decide +kernel) rfl
theorem r_L_law_2130 : IOK WB AD SR FW TB md_L_law 2130 (.invokevirtual 258, 52, 18, 0, []) := io_virt (by decide +kernel) tb_X17_complete (wb_10 47 rfl rfl) in_X17_complete se_X17_complete ⟨_, rfl, rfl⟩ pr_X17_complete (by decide)
theorem r_L_law_2133 : IOK WB AD SR FW TB md_L_law 2133 (.if_icmp .eq 129, 0, 0, 0, []) := io_plain (by decide +kernel) rfl
theorem r_L_law_2138 : IOK WB AD SR FW TB md_L_law 2138 (.aload_n 1, 0, 0, 0, []) := io_plain (by decide +kernel) rfl
theorem r_L_law_2139 : IOK WB AD SR FW TB md_L_law 2139 (.aload_n 0, 0, 0, 0, []) := io_plain (by decide +kernel) rfl
theorem r_L_law_2140 : IOK WB AD SR FW TB md_L_law 2140 (.iload 4, 0, 0, 0, []) := io_plain (by decide +kernel) rfl
theorem r_L_law_2142 : IOK WB AD SR FW TB md_L_law 2142 (.iconst 1, 0, 0, 0, []) := io_plain (by decide +kernel) rfl
theorem r_L_law_2143 : IOK WB AD SR FW TB md_L_law 2143 (.iadd, 0, 0, 0, []) := io_plain (by decide +kernel) rfl
theorem r_L_law_2144 : IOK WB AD SR FW TB md_L_law 2144 (.iaload, 0, 0, 0, []) := io_plain (by decide +kernel) rfl
theorem r_L_law_2145 : IOK WB AD SR FW TB md_L_law 2145 (.aload_n 0, 0, 0, 0, []) := io_plain (by decide +kernel) rfl
theorem r_L_law_2146 : IOK WB AD SR FW TB md_L_law 2146 (.iload 4, 0, 0, 0, []) := io_plain (by decide +kernel) rfl
theorem r_L_law_2148 : IOK WB AD SR FW TB md_L_law 2148 (.iconst 2, 0, 0, 0, []) := io_plain (by decide +kernel) rfl
theorem r_L_law_2149 : IOK WB AD SR FW TB md_L_law 2149 (.iadd, 0, 0, 0, []) := io_plain (by decide +kernel) rfl
set_option maxRecDepth 100000 in
theorem ok_L_law_21 : ∀ q ∈ tl_L_law_21, IOK WB AD SR FW TB md_L_law q.1 q.2 := List.forall_mem_cons.mpr ⟨r_L_law_2059, List.forall_mem_cons.mpr ⟨r_L_law_2062, List.forall_mem_cons.mpr ⟨r_L_law_2063, List.forall_mem_cons.mpr ⟨r_L_law_2064, List.forall_mem_cons.mpr ⟨r_L_law_2066, List.forall_mem_cons.mpr ⟨r_L_law_2067, List.forall_mem_cons.mpr ⟨r_L_law_2068, List.forall_mem_cons.mpr ⟨r_L_law_2069, List.forall_mem_cons.mpr ⟨r_L_law_2070, List.forall_mem_cons.mpr ⟨r_L_law_2073, List.forall_mem_cons.mpr ⟨r_L_law_2075, List.forall_mem_cons.mpr ⟨r_L_law_2076, List.forall_mem_cons.mpr ⟨r_L_law_2077, List.forall_mem_cons.mpr ⟨r_L_law_2079, List.forall_mem_cons.mpr ⟨r_L_law_2080, List.forall_mem_cons.mpr ⟨r_L_law_2081, List.forall_mem_cons.mpr ⟨r_L_law_2082, List.forall_mem_cons.mpr ⟨r_L_law_2085, List.forall_mem_cons.mpr ⟨r_L_law_2087, List.forall_mem_cons.mpr ⟨r_L_law_2088, List.forall_mem_cons.mpr ⟨r_L_law_2091, List.forall_mem_cons.mpr ⟨r_L_law_2093, List.forall_mem_cons.mpr ⟨r_L_law_2098, List.forall_mem_cons.mpr ⟨r_L_law_2100, List.forall_mem_cons.mpr ⟨r_L_law_2122, List.forall_mem_cons.mpr ⟨r_L_law_2125, List.forall_mem_cons.mpr ⟨r_L_law_2126, List.forall_mem_cons.mpr ⟨r_L_law_2129, List.forall_mem_cons.mpr ⟨r_L_law_2130, List.forall_mem_cons.mpr ⟨r_L_law_2133, List.forall_mem_cons.mpr ⟨r_L_law_2138, List.forall_mem_cons.mpr ⟨r_L_law_2139, List.forall_mem_cons.mpr ⟨r_L_law_2140, List.forall_mem_cons.mpr ⟨r_L_law_2142, List.forall_mem_cons.mpr ⟨r_L_law_2143, List.forall_mem_cons.mpr ⟨r_L_law_2144, List.forall_mem_cons.mpr ⟨r_L_law_2145, List.forall_mem_cons.mpr ⟨r_L_law_2146, List.forall_mem_cons.mpr ⟨r_L_law_2148, List.forall_mem_cons.mpr ⟨r_L_law_2149, fun _ h => absurd h List.not_mem_nil⟩⟩⟩⟩⟩⟩⟩⟩⟩⟩⟩⟩⟩⟩⟩⟩⟩⟩⟩⟩⟩⟩⟩⟩⟩⟩⟩⟩⟩⟩⟩⟩⟩⟩⟩⟩⟩⟩⟩⟩
set_option maxRecDepth 100000 in
theorem tq_L_law_21 : tf_L_law_21 = tl_L_law_21.map (fun q => (q.1, stepOf NPf md_L_law q.2)) := rfl
theorem r_L_law_2150 : IOK WB AD SR FW TB md_L_law 2150 (.iaload, 0, 0, 0, []) := io_plain (by decide +kernel) rfl
theorem r_L_law_2151 : IOK WB AD SR FW TB md_L_law 2151 (.aload_n 3, 0, 0, 0, []) := io_plain (by decide +kernel) rfl
theorem r_L_law_2152 : IOK WB AD SR FW TB md_L_law 2152 (.invokestatic 259, 90, 0, 0, []) := io_stat (by decide +kernel) tb_L_view (wb_7 18 rfl rfl) st_L_view pr_L_view
theorem r_L_law_2155 : IOK WB AD SR FW TB md_L_law 2155 (.istore 5, 0, 0, 0, []) := io_plain (by decide +kernel) rfl
theorem r_L_law_2157 : IOK WB AD SR FW TB md_L_law 2157 (.aload_n 2, 0, 0, 0, []) := io_plain (by decide +kernel) rfl
theorem r_L_law_2158 : IOK WB AD SR FW TB md_L_law 2158 (.aload_n 0, 0, 0, 0, []) := io_plain (by decide +kernel) rfl
theorem r_L_law_2159 : IOK WB AD SR FW TB md_L_law 2159 (.iload 4, 0, 0, 0, []) := io_plain (by decide +kernel) rfl
theorem r_L_law_2161 : IOK WB AD SR FW TB md_L_law 2161 (.iconst 1, 0, 0, 0, []) := io_plain (by decide +kernel) rfl
theorem r_L_law_2162 : IOK WB AD SR FW TB md_L_law 2162 (.iadd, 0, 0, 0, []) := io_plain (by decide +kernel) rfl
theorem r_L_law_2163 : IOK WB AD SR FW TB md_L_law 2163 (.iaload, 0, 0, 0, []) := io_plain (by decide +kernel) rfl
theorem r_L_law_2164 : IOK WB AD SR FW TB md_L_law 2164 (.aload_n 0, 0, 0, 0, []) := io_plain (by decide +kernel) rfl
theorem r_L_law_2165 : IOK WB AD SR FW TB md_L_law 2165 (.iload 4, 0, 0, 0, []) := io_plain (by decide +kernel) rfl
theorem r_L_law_2167 : IOK WB AD SR FW TB md_L_law 2167 (.iconst 2, 0, 0, 0, []) := io_plain (by decide +kernel) rfl
theorem r_L_law_2168 : IOK WB AD SR FW TB md_L_law 2168 (.iadd, 0, 0, 0, []) := io_plain (by decide +kernel) rfl
theorem r_L_law_2169 : IOK WB AD SR FW TB md_L_law 2169 (.iaload, 0, 0, 0, []) := io_plain (by decide +kernel) rfl
theorem r_L_law_2170 : IOK WB AD SR FW TB md_L_law 2170 (.invokevirtual 261, 53, 18, 0, []) := io_virt (by decide +kernel) tb_X17_view (wb_10 90 rfl rfl) in_X17_view se_X17_view ⟨_, rfl, rfl⟩ pr_X17_view (by decide)
theorem r_L_law_2173 : IOK WB AD SR FW TB md_L_law 2173 (.istore 6, 0, 0, 0, []) := io_plain (by decide +kernel) rfl
theorem r_L_law_2175 : IOK WB AD SR FW TB md_L_law 2175 (.aload_n 2, 0, 0, 0, []) := io_plain (by decide +kernel) rfl
theorem r_L_law_2176 : IOK WB AD SR FW TB md_L_law 2176 (.invokevirtual 136, 22, 18, 0, []) := io_virt (by decide +kernel) tb_X17_thrown (wb_7 239 rfl rfl) in_X17_thrown se_X17_thrown ⟨_, rfl, rfl⟩ pr_X17_thrown (by decide)
theorem r_L_law_2179 : IOK WB AD SR FW TB md_L_law 2179 (.iload 5, 0, 0, 0, []) := io_plain (by decide +kernel) rfl
theorem r_L_law_2181 : IOK WB AD SR FW TB md_L_law 2181 (.if_icmp .eq 5, 0, 0, 0, []) := io_plain (by decide +kernel) rfl
theorem r_L_law_2186 : IOK WB AD SR FW TB md_L_law 2186 (.iload 5, 0, 0, 0, []) := io_plain (by decide +kernel) rfl
theorem r_L_law_2188 : IOK WB AD SR FW TB md_L_law 2188 (.ifCond .ne 15, 0, 0, 0, []) := io_plain (by decide +kernel) rfl
theorem r_L_law_2203 : IOK WB AD SR FW TB md_L_law 2203 (.goto 59, 0, 0, 0, []) := io_plain (by decide +kernel) rfl
theorem r_L_law_2206 : IOK WB AD SR FW TB md_L_law 2206 (.aload_n 1, 0, 0, 0, []) := io_plain (by decide +kernel) rfl
theorem r_L_law_2207 : IOK WB AD SR FW TB md_L_law 2207 (.aload_n 0, 0, 0, 0, []) := io_plain (by decide +kernel) rfl
theorem r_L_law_2208 : IOK WB AD SR FW TB md_L_law 2208 (.iload 4, 0, 0, 0, []) := io_plain (by decide +kernel) rfl
theorem r_L_law_2210 : IOK WB AD SR FW TB md_L_law 2210 (.iconst 1, 0, 0, 0, []) := io_plain (by decide +kernel) rfl
theorem r_L_law_2211 : IOK WB AD SR FW TB md_L_law 2211 (.iadd, 0, 0, 0, []) := io_plain (by decide +kernel) rfl
theorem r_L_law_2212 : IOK WB AD SR FW TB md_L_law 2212 (.iaload, 0, 0, 0, []) := io_plain (by decide +kernel) rfl
theorem r_L_law_2213 : IOK WB AD SR FW TB md_L_law 2213 (.aload_n 3, 0, 0, 0, []) := io_plain (by decide +kernel) rfl
theorem r_L_law_2214 : IOK WB AD SR FW TB md_L_law 2214 (.invokestatic 262, 98, 0, 0, []) := io_stat (by decide +kernel) tb_L_copy (wb_7 26 rfl rfl) st_L_copy pr_L_copy
theorem r_L_law_2217 : IOK WB AD SR FW TB md_L_law 2217 (.istore 5, 0, 0, 0, []) := io_plain (by decide +kernel) rfl
theorem r_L_law_2219 : IOK WB AD SR FW TB md_L_law 2219 (.aload_n 2, 0, 0, 0, []) := io_plain (by decide +kernel) rfl
theorem r_L_law_2220 : IOK WB AD SR FW TB md_L_law 2220 (.aload_n 0, 0, 0, 0, []) := io_plain (by decide +kernel) rfl
theorem r_L_law_2221 : IOK WB AD SR FW TB md_L_law 2221 (.iload 4, 0, 0, 0, []) := io_plain (by decide +kernel) rfl
theorem r_L_law_2223 : IOK WB AD SR FW TB md_L_law 2223 (.iconst 1, 0, 0, 0, []) := io_plain (by decide +kernel) rfl
theorem r_L_law_2224 : IOK WB AD SR FW TB md_L_law 2224 (.iadd, 0, 0, 0, []) := io_plain (by decide +kernel) rfl
theorem r_L_law_2225 : IOK WB AD SR FW TB md_L_law 2225 (.iaload, 0, 0, 0, []) := io_plain (by decide +kernel) rfl
theorem r_L_law_2226 : IOK WB AD SR FW TB md_L_law 2226 (.invokevirtual 264, 59, 18, 0, []) := io_virt (by decide +kernel) tb_X17_copy (wb_10 94 rfl rfl) in_X17_copy se_X17_copy ⟨_, rfl, rfl⟩ pr_X17_copy (by decide)
set_option maxRecDepth 100000 in
theorem ok_L_law_22 : ∀ q ∈ tl_L_law_22, IOK WB AD SR FW TB md_L_law q.1 q.2 := List.forall_mem_cons.mpr ⟨r_L_law_2150, List.forall_mem_cons.mpr ⟨r_L_law_2151, List.forall_mem_cons.mpr ⟨r_L_law_2152, List.forall_mem_cons.mpr ⟨r_L_law_2155, List.forall_mem_cons.mpr ⟨r_L_law_2157, List.forall_mem_cons.mpr ⟨r_L_law_2158, List.forall_mem_cons.mpr ⟨r_L_law_2159, List.forall_mem_cons.mpr ⟨r_L_law_2161, List.forall_mem_cons.mpr ⟨r_L_law_2162, List.forall_mem_cons.mpr ⟨r_L_law_2163, List.forall_mem_cons.mpr ⟨r_L_law_2164, List.forall_mem_cons.mpr ⟨r_L_law_2165, List.forall_mem_cons.mpr ⟨r_L_law_2167, List.forall_mem_cons.mpr ⟨r_L_law_2168, List.forall_mem_cons.mpr ⟨r_L_law_2169, List.forall_mem_cons.mpr ⟨r_L_law_2170, List.forall_mem_cons.mpr ⟨r_L_law_2173, List.forall_mem_cons.mpr ⟨r_L_law_2175, List.forall_mem_cons.mpr ⟨r_L_law_2176, List.forall_mem_cons.mpr ⟨r_L_law_2179, List.forall_mem_cons.mpr ⟨r_L_law_2181, List.forall_mem_cons.mpr ⟨r_L_law_2186, List.forall_mem_cons.mpr ⟨r_L_law_2188, List.forall_mem_cons.mpr ⟨r_L_law_2203, List.forall_mem_cons.mpr ⟨r_L_law_2206, List.forall_mem_cons.mpr ⟨r_L_law_2207, List.forall_mem_cons.mpr ⟨r_L_law_2208, List.forall_mem_cons.mpr ⟨r_L_law_2210, List.forall_mem_cons.mpr ⟨r_L_law_2211, List.forall_mem_cons.mpr ⟨r_L_law_2212, List.forall_mem_cons.mpr ⟨r_L_law_2213, List.forall_mem_cons.mpr ⟨r_L_law_2214, List.forall_mem_cons.mpr ⟨r_L_law_2217, List.forall_mem_cons.mpr ⟨r_L_law_2219, List.forall_mem_cons.mpr ⟨r_L_law_2220, List.forall_mem_cons.mpr ⟨r_L_law_2221, List.forall_mem_cons.mpr ⟨r_L_law_2223, List.forall_mem_cons.mpr ⟨r_L_law_2224, List.forall_mem_cons.mpr ⟨r_L_law_2225, List.forall_mem_cons.mpr ⟨r_L_law_2226, fun _ h => absurd h List.not_mem_nil⟩⟩⟩⟩⟩⟩⟩⟩⟩⟩⟩⟩⟩⟩⟩⟩⟩⟩⟩⟩⟩⟩⟩⟩⟩⟩⟩⟩⟩⟩⟩⟩⟩⟩⟩⟩⟩⟩⟩⟩
set_option maxRecDepth 100000 in
theorem tq_L_law_22 : tf_L_law_22 = tl_L_law_22.map (fun q => (q.1, stepOf NPf md_L_law q.2)) := rfl
theorem r_L_law_2229 : IOK WB AD SR FW TB md_L_law 2229 (.istore 6, 0, 0, 0, []) := io_plain (by decide +kernel) rfl
theorem r_L_law_2231 : IOK WB AD SR FW TB md_L_law 2231 (.aload_n 2, 0, 0, 0, []) := io_plain (by decide +kernel) rfl
theorem r_L_law_2232 : IOK WB AD SR FW TB md_L_law 2232 (.invokevirtual 136, 22, 18, 0, []) := io_virt (by decide +kernel) tb_X17_thrown (wb_7 239 rfl rfl) in_X17_thrown se_X17_thrown ⟨_, rfl, rfl⟩ pr_X17_thrown (by decide)
theorem r_L_law_2235 : IOK WB AD SR FW TB md_L_law 2235 (.iload 5, 0, 0, 0, []) := io_plain (by decide +kernel) rfl
theorem r_L_law_2237 : IOK WB AD SR FW TB md_L_law 2237 (.if_icmp .eq 5, 0, 0, 0, []) := io_plain (by decide +kernel) rfl
theorem r_L_law_2242 : IOK WB AD SR FW TB md_L_law 2242 (.iload 5, 0, 0, 0, []) := io_plain (by decide +kernel) rfl
theorem r_L_law_2244 : IOK WB AD SR FW TB md_L_law 2244 (.ifCond .ne 15, 0, 0, 0, []) := io_plain (by decide +kernel) rfl
theorem r_L_law_2259 : IOK WB AD SR FW TB md_L_law 2259 (.goto 3, 0, 0, 0, []) := io_plain (by decide +kernel) rfl
theorem r_L_law_2262 : IOK WB AD SR FW TB md_L_law 2262 (.iinc 4 6, 0, 0, 0, []) := io_plain (by decide +kernel) rfl
theorem r_L_law_2265 : IOK WB AD SR FW TB md_L_law 2265 (.goto (-2242), 0, 0, 0, []) := io_plain (by decide +kernel) rfl
theorem r_L_law_2268 : IOK WB AD SR FW TB md_L_law 2268 (.iconst 1, 0, 0, 0, []) := io_plain (by decide +kernel) rfl
theorem r_L_law_2269 : IOK WB AD SR FW TB md_L_law 2269 (.ireturn, 0, 0, 0, []) := io_plain (by decide +kernel) rfl
set_option maxRecDepth 100000 in
theorem ok_L_law_23 : ∀ q ∈ tl_L_law_23, IOK WB AD SR FW TB md_L_law q.1 q.2 := List.forall_mem_cons.mpr ⟨r_L_law_2229, List.forall_mem_cons.mpr ⟨r_L_law_2231, List.forall_mem_cons.mpr ⟨r_L_law_2232, List.forall_mem_cons.mpr ⟨r_L_law_2235, List.forall_mem_cons.mpr ⟨r_L_law_2237, List.forall_mem_cons.mpr ⟨r_L_law_2242, List.forall_mem_cons.mpr ⟨r_L_law_2244, List.forall_mem_cons.mpr ⟨r_L_law_2259, List.forall_mem_cons.mpr ⟨r_L_law_2262, List.forall_mem_cons.mpr ⟨r_L_law_2265, List.forall_mem_cons.mpr ⟨r_L_law_2268, List.forall_mem_cons.mpr ⟨r_L_law_2269, fun _ h => absurd h List.not_mem_nil⟩⟩⟩⟩⟩⟩⟩⟩⟩⟩⟩⟩
set_option maxRecDepth 100000 in
theorem tq_L_law_23 : tf_L_law_23 = tl_L_law_23.map (fun q => (q.1, stepOf NPf md_L_law q.2)) := rfl
theorem ro_L_law : RowsOK (md_L_law, tl_L_law) tf_L_law := rows_app ⟨tq_L_law_0, ok_L_law_0⟩ (rows_app ⟨tq_L_law_1, ok_L_law_1⟩ (rows_app ⟨tq_L_law_2, ok_L_law_2⟩ (rows_app ⟨tq_L_law_3, ok_L_law_3⟩ (rows_app ⟨tq_L_law_4, ok_L_law_4⟩ (rows_app ⟨tq_L_law_5, ok_L_law_5⟩ (rows_app ⟨tq_L_law_6, ok_L_law_6⟩ (rows_app ⟨tq_L_law_7, ok_L_law_7⟩ (rows_app ⟨tq_L_law_8, ok_L_law_8⟩ (rows_app ⟨tq_L_law_9, ok_L_law_9⟩ (rows_app ⟨tq_L_law_10, ok_L_law_10⟩ (rows_app ⟨tq_L_law_11, ok_L_law_11⟩ (rows_app ⟨tq_L_law_12, ok_L_law_12⟩ (rows_app ⟨tq_L_law_13, ok_L_law_13⟩ (rows_app ⟨tq_L_law_14, ok_L_law_14⟩ (rows_app ⟨tq_L_law_15, ok_L_law_15⟩ (rows_app ⟨tq_L_law_16, ok_L_law_16⟩ (rows_app ⟨tq_L_law_17, ok_L_law_17⟩ (rows_app ⟨tq_L_law_18, ok_L_law_18⟩ (rows_app ⟨tq_L_law_19, ok_L_law_19⟩ (rows_app ⟨tq_L_law_20, ok_L_law_20⟩ (rows_app ⟨tq_L_law_21, ok_L_law_21⟩ (rows_app ⟨tq_L_law_22, ok_L_law_22⟩ (⟨tq_L_law_23, ok_L_law_23⟩)))))))))))))))))))))))
theorem r_X17_init_0 : IOK WB AD SR FW TB md_X17_init 0 (.aload_n 0, 0, 0, 0, []) := io_plain (by decide +kernel) rfl
theorem r_X17_init_1 : IOK WB AD SR FW TB md_X17_init 1 (.invokespecial 1, 1000, 0, 0, []) := io_obj (by decide +kernel) (wb_7 45 rfl rfl) ob_1 ob_2
theorem r_X17_init_4 : IOK WB AD SR FW TB md_X17_init 4 (.aload_n 0, 0, 0, 0, []) := io_plain (by decide +kernel) rfl
theorem r_X17_init_5 : IOK WB AD SR FW TB md_X17_init 5 (.bipush 64, 0, 0, 0, []) := io_plain (by decide +kernel) rfl
theorem r_X17_init_7 : IOK WB AD SR FW TB md_X17_init 7 (.newarray .boolean, 1, 0, 0, []) := io_newa (by decide +kernel) (Or.inr (Or.inl ⟨rfl, rfl⟩)) ac_boolean
theorem r_X17_init_9 : IOK WB AD SR FW TB md_X17_init 9 (.putfield 7, 18, 2, 2, []) := io_put (by decide +kernel) fo_RX17_7 po_RX17_1_18_2_2
theorem r_X17_init_12 : IOK WB AD SR FW TB md_X17_init 12 (.aload_n 0, 0, 0, 0, []) := io_plain (by decide +kernel) rfl
theorem r_X17_init_13 : IOK WB AD SR FW TB md_X17_init 13 (.bipush 10, 0, 0, 0, []) := io_plain (by decide +kernel) rfl
theorem r_X17_init_15 : IOK WB AD SR FW TB md_X17_init 15 (.newarray .int, 0, 0, 0, []) := io_newa (by decide +kernel) (Or.inl ⟨rfl, rfl⟩) ac_int
theorem r_X17_init_17 : IOK WB AD SR FW TB md_X17_init 17 (.putfield 13, 18, 3, 2, []) := io_put (by decide +kernel) fo_RX17_13 po_RX17_1_18_3_2
theorem r_X17_init_20 : IOK WB AD SR FW TB md_X17_init 20 (.aload_n 0, 0, 0, 0, []) := io_plain (by decide +kernel) rfl
theorem r_X17_init_21 : IOK WB AD SR FW TB md_X17_init 21 (.bipush 16, 0, 0, 0, []) := io_plain (by decide +kernel) rfl
theorem r_X17_init_23 : IOK WB AD SR FW TB md_X17_init 23 (.newarray .int, 0, 0, 0, []) := io_newa (by decide +kernel) (Or.inl ⟨rfl, rfl⟩) ac_int
theorem r_X17_init_25 : IOK WB AD SR FW TB md_X17_init 25 (.putfield 17, 18, 5, 2, []) := io_put (by decide +kernel) fo_RX17_17 po_RX17_1_18_5_2
theorem r_X17_init_28 : IOK WB AD SR FW TB md_X17_init 28 (.aload_n 0, 0, 0, 0, []) := io_plain (by decide +kernel) rfl
theorem r_X17_init_29 : IOK WB AD SR FW TB md_X17_init 29 (.bipush 16, 0, 0, 0, []) := io_plain (by decide +kernel) rfl
theorem r_X17_init_31 : IOK WB AD SR FW TB md_X17_init 31 (.newarray .int, 0, 0, 0, []) := io_newa (by decide +kernel) (Or.inl ⟨rfl, rfl⟩) ac_int
theorem r_X17_init_33 : IOK WB AD SR FW TB md_X17_init 33 (.putfield 20, 18, 6, 2, []) := io_put (by decide +kernel) fo_RX17_20 po_RX17_1_18_6_2
theorem r_X17_init_36 : IOK WB AD SR FW TB md_X17_init 36 (.aload_n 0, 0, 0, 0, []) := io_plain (by decide +kernel) rfl
theorem r_X17_init_37 : IOK WB AD SR FW TB md_X17_init 37 (.bipush 16, 0, 0, 0, []) := io_plain (by decide +kernel) rfl
theorem r_X17_init_39 : IOK WB AD SR FW TB md_X17_init 39 (.newarray .int, 0, 0, 0, []) := io_newa (by decide +kernel) (Or.inl ⟨rfl, rfl⟩) ac_int
theorem r_X17_init_41 : IOK WB AD SR FW TB md_X17_init 41 (.putfield 23, 18, 7, 2, []) := io_put (by decide +kernel) fo_RX17_23 po_RX17_1_18_7_2
theorem r_X17_init_44 : IOK WB AD SR FW TB md_X17_init 44 (.aload_n 0, 0, 0, 0, []) := io_plain (by decide +kernel) rfl
theorem r_X17_init_45 : IOK WB AD SR FW TB md_X17_init 45 (.bipush 16, 0, 0, 0, []) := io_plain (by decide +kernel) rfl
theorem r_X17_init_47 : IOK WB AD SR FW TB md_X17_init 47 (.newarray .int, 0, 0, 0, []) := io_newa (by decide +kernel) (Or.inl ⟨rfl, rfl⟩) ac_int
theorem r_X17_init_49 : IOK WB AD SR FW TB md_X17_init 49 (.putfield 26, 18, 8, 2, []) := io_put (by decide +kernel) fo_RX17_26 po_RX17_1_18_8_2
theorem r_X17_init_52 : IOK WB AD SR FW TB md_X17_init 52 (.aload_n 0, 0, 0, 0, []) := io_plain (by decide +kernel) rfl
theorem r_X17_init_53 : IOK WB AD SR FW TB md_X17_init 53 (.bipush 48, 0, 0, 0, []) := io_plain (by decide +kernel) rfl
theorem r_X17_init_55 : IOK WB AD SR FW TB md_X17_init 55 (.newarray .int, 0, 0, 0, []) := io_newa (by decide +kernel) (Or.inl ⟨rfl, rfl⟩) ac_int
theorem r_X17_init_57 : IOK WB AD SR FW TB md_X17_init 57 (.putfield 29, 18, 9, 2, []) := io_put (by decide +kernel) fo_RX17_29 po_RX17_1_18_9_2
theorem r_X17_init_60 : IOK WB AD SR FW TB md_X17_init 60 (.aload_n 0, 0, 0, 0, []) := io_plain (by decide +kernel) rfl
theorem r_X17_init_61 : IOK WB AD SR FW TB md_X17_init 61 (.sipush 144, 0, 0, 0, []) := io_plain (by decide +kernel) rfl
theorem r_X17_init_64 : IOK WB AD SR FW TB md_X17_init 64 (.newarray .int, 0, 0, 0, []) := io_newa (by decide +kernel) (Or.inl ⟨rfl, rfl⟩) ac_int
theorem r_X17_init_66 : IOK WB AD SR FW TB md_X17_init 66 (.putfield 32, 18, 10, 2, []) := io_put (by decide +kernel) fo_RX17_32 po_RX17_1_18_10_2
theorem r_X17_init_69 : IOK WB AD SR FW TB md_X17_init 69 (.aload_n 0, 0, 0, 0, []) := io_plain (by decide +kernel) rfl
theorem r_X17_init_70 : IOK WB AD SR FW TB md_X17_init 70 (.bipush 64, 0, 0, 0, []) := io_plain (by decide +kernel) rfl
theorem r_X17_init_72 : IOK WB AD SR FW TB md_X17_init 72 (.newarray .int, 0, 0, 0, []) := io_newa (by decide +kernel) (Or.inl ⟨rfl, rfl⟩) ac_int
theorem r_X17_init_74 : IOK WB AD SR FW TB md_X17_init 74 (.putfield 35, 18, 11, 2, []) := io_put (by decide +kernel) fo_RX17_35 po_RX17_1_18_11_2
theorem r_X17_init_77 : IOK WB AD SR FW TB md_X17_init 77 (.aload_n 0, 0, 0, 0, []) := io_plain (by decide +kernel) rfl
theorem r_X17_init_78 : IOK WB AD SR FW TB md_X17_init 78 (.bipush 16, 0, 0, 0, []) := io_plain (by decide +kernel) rfl
set_option maxRecDepth 100000 in
theorem ok_X17_init_0 : ∀ q ∈ tl_X17_init_0, IOK WB AD SR FW TB md_X17_init q.1 q.2 := List.forall_mem_cons.mpr ⟨r_X17_init_0, List.forall_mem_cons.mpr ⟨r_X17_init_1, List.forall_mem_cons.mpr ⟨r_X17_init_4, List.forall_mem_cons.mpr ⟨r_X17_init_5, List.forall_mem_cons.mpr ⟨r_X17_init_7, List.forall_mem_cons.mpr ⟨r_X17_init_9, List.forall_mem_cons.mpr ⟨r_X17_init_12, List.forall_mem_cons.mpr ⟨r_X17_init_13, List.forall_mem_cons.mpr ⟨r_X17_init_15, List.forall_mem_cons.mpr ⟨r_X17_init_17, List.forall_mem_cons.mpr ⟨r_X17_init_20, List.forall_mem_cons.mpr ⟨r_X17_init_21, List.forall_mem_cons.mpr ⟨r_X17_init_23, List.forall_mem_cons.mpr ⟨r_X17_init_25, List.forall_mem_cons.mpr ⟨r_X17_init_28, List.forall_mem_cons.mpr ⟨r_X17_init_29, List.forall_mem_cons.mpr ⟨r_X17_init_31, List.forall_mem_cons.mpr ⟨r_X17_init_33, List.forall_mem_cons.mpr ⟨r_X17_init_36, List.forall_mem_cons.mpr ⟨r_X17_init_37, List.forall_mem_cons.mpr ⟨r_X17_init_39, List.forall_mem_cons.mpr ⟨r_X17_init_41, List.forall_mem_cons.mpr ⟨r_X17_init_44, List.forall_mem_cons.mpr ⟨r_X17_init_45, List.forall_mem_cons.mpr ⟨r_X17_init_47, List.forall_mem_cons.mpr ⟨r_X17_init_49, List.forall_mem_cons.mpr ⟨r_X17_init_52, List.forall_mem_cons.mpr ⟨r_X17_init_53, List.forall_mem_cons.mpr ⟨r_X17_init_55, List.forall_mem_cons.mpr ⟨r_X17_init_57, List.forall_mem_cons.mpr ⟨r_X17_init_60, List.forall_mem_cons.mpr ⟨r_X17_init_61, List.forall_mem_cons.mpr ⟨r_X17_init_64, List.forall_mem_cons.mpr ⟨r_X17_init_66, List.forall_mem_cons.mpr ⟨r_X17_init_69, List.forall_mem_cons.mpr ⟨r_X17_init_70, List.forall_mem_cons.mpr ⟨r_X17_init_72, List.forall_mem_cons.mpr ⟨r_X17_init_74, List.forall_mem_cons.mpr ⟨r_X17_init_77, List.forall_mem_cons.mpr ⟨r_X17_init_78, fun _ h => absurd h List.not_mem_nil⟩⟩⟩⟩⟩⟩⟩⟩⟩⟩⟩⟩⟩⟩⟩⟩⟩⟩⟩⟩⟩⟩⟩⟩⟩⟩⟩⟩⟩⟩⟩⟩⟩⟩⟩⟩⟩⟩⟩⟩
set_option maxRecDepth 100000 in
theorem tq_X17_init_0 : tf_X17_init_0 = tl_X17_init_0.map (fun q => (q.1, stepOf NPf md_X17_init q.2)) := rfl
theorem r_X17_init_80 : IOK WB AD SR FW TB md_X17_init 80 (.newarray .int, 0, 0, 0, []) := io_newa (by decide +kernel) (Or.inl ⟨rfl, rfl⟩) ac_int
theorem r_X17_init_82 : IOK WB AD SR FW TB md_X17_init 82 (.putfield 38, 18, 12, 2, []) := io_put (by decide +kernel) fo_RX17_38 po_RX17_1_18_12_2
theorem r_X17_init_85 : IOK WB AD SR FW TB md_X17_init 85 (.aload_n 0, 0, 0, 0, []) := io_plain (by decide +kernel) rfl
theorem r_X17_init_86 : IOK WB AD SR FW TB md_X17_init 86 (.new 41, 0, 0, 0, [0, 2, 0]) := io_new (by decide +kernel) rfl no_RX17_41
theorem r_X17_init_89 : IOK WB AD SR FW TB md_X17_init 89 (.dup, 0, 0, 0, []) := io_plain (by decide +kernel) rfl
theorem r_X17_init_90 : IOK WB AD SR FW TB md_X17_init 90 (.invokespecial 43, 11, 0, 0, []) := io_spec (by decide +kernel) tb_Jx4a65c_init_da8c8 (wb_7 48 rfl rfl) in_Jx4a65c_init_da8c8 rfl rfl rfl pr_Jx4a65c_init_da8c8 (by decide)
theorem r_X17_init_93 : IOK WB AD SR FW TB md_X17_init 93 (.putfield 44, 18, 13, 2, []) := io_put (by decide +kernel) fo_RX17_44 po_RX17_1_18_13_2
theorem r_X17_init_96 : IOK WB AD SR FW TB md_X17_init 96 (.aload_n 0, 0, 0, 0, []) := io_plain (by decide +kernel) rfl
theorem r_X17_init_97 : IOK WB AD SR FW TB md_X17_init 97 (.bipush 20, 0, 0, 0, []) := io_plain (by decide +kernel) rfl
theorem r_X17_init_99 : IOK WB AD SR FW TB md_X17_init 99 (.anewarray 48, 0, 0, 0, []) := io_newq (by decide +kernel) (by decide) (wb_7 72 rfl rfl)
theorem r_X17_init_102 : IOK WB AD SR FW TB md_X17_init 102 (.putfield 50, 18, 14, 2, []) := io_put (by decide +kernel) fo_RX17_50 po_RX17_1_18_14_2
theorem r_X17_init_105 : IOK WB AD SR FW TB md_X17_init 105 (.aload_n 0, 0, 0, 0, []) := io_plain (by decide +kernel) rfl
theorem r_X17_init_106 : IOK WB AD SR FW TB md_X17_init 106 (.new 41, 0, 0, 0, [0, 2, 0]) := io_new (by decide +kernel) rfl no_RX17_41
theorem r_X17_init_109 : IOK WB AD SR FW TB md_X17_init 109 (.dup, 0, 0, 0, []) := io_plain (by decide +kernel) rfl
theorem r_X17_init_110 : IOK WB AD SR FW TB md_X17_init 110 (.invokespecial 43, 11, 0, 0, []) := io_spec (by decide +kernel) tb_Jx4a65c_init_da8c8 (wb_7 48 rfl rfl) in_Jx4a65c_init_da8c8 rfl rfl rfl pr_Jx4a65c_init_da8c8 (by decide)
theorem r_X17_init_113 : IOK WB AD SR FW TB md_X17_init 113 (.putfield 54, 18, 15, 2, []) := io_put (by decide +kernel) fo_RX17_54 po_RX17_1_18_15_2
theorem r_X17_init_116 : IOK WB AD SR FW TB md_X17_init 116 (.aload_n 0, 0, 0, 0, []) := io_plain (by decide +kernel) rfl
theorem r_X17_init_117 : IOK WB AD SR FW TB md_X17_init 117 (.new 41, 0, 0, 0, [0, 2, 0]) := io_new (by decide +kernel) rfl no_RX17_41
theorem r_X17_init_120 : IOK WB AD SR FW TB md_X17_init 120 (.dup, 0, 0, 0, []) := io_plain (by decide +kernel) rfl
theorem r_X17_init_121 : IOK WB AD SR FW TB md_X17_init 121 (.invokespecial 43, 11, 0, 0, []) := io_spec (by decide +kernel) tb_Jx4a65c_init_da8c8 (wb_7 48 rfl rfl) in_Jx4a65c_init_da8c8 rfl rfl rfl pr_Jx4a65c_init_da8c8 (by decide)
theorem r_X17_init_124 : IOK WB AD SR FW TB md_X17_init 124 (.putfield 57, 18, 16, 2, []) := io_put (by decide +kernel) fo_RX17_57 po_RX17_1_18_16_2
theorem r_X17_init_127 : IOK WB AD SR FW TB md_X17_init 127 (.aload_n 0, 0, 0, 0, []) := io_plain (by decide +kernel) rfl
theorem r_X17_init_128 : IOK WB AD SR FW TB md_X17_init 128 (.new 41, 0, 0, 0, [0, 2, 0]) := io_new (by decide +kernel) rfl no_RX17_41
theorem r_X17_init_131 : IOK WB AD SR FW TB md_X17_init 131 (.dup, 0, 0, 0, []) := io_plain (by decide +kernel) rfl
theorem r_X17_init_132 : IOK WB AD SR FW TB md_X17_init 132 (.invokespecial 43, 11, 0, 0, []) := io_spec (by decide +kernel) tb_Jx4a65c_init_da8c8 (wb_7 48 rfl rfl) in_Jx4a65c_init_da8c8 rfl rfl rfl pr_Jx4a65c_init_da8c8 (by decide)
theorem r_X17_init_135 : IOK WB AD SR FW TB md_X17_init 135 (.putfield 60, 18, 17, 2, []) := io_put (by decide +kernel) fo_RX17_60 po_RX17_1_18_17_2
theorem r_X17_init_138 : IOK WB AD SR FW TB md_X17_init 138 (.aload_n 0, 0, 0, 0, []) := io_plain (by decide +kernel) rfl
theorem r_X17_init_139 : IOK WB AD SR FW TB md_X17_init 139 (.new 41, 0, 0, 0, [0, 2, 0]) := io_new (by decide +kernel) rfl no_RX17_41
theorem r_X17_init_142 : IOK WB AD SR FW TB md_X17_init 142 (.dup, 0, 0, 0, []) := io_plain (by decide +kernel) rfl
theorem r_X17_init_143 : IOK WB AD SR FW TB md_X17_init 143 (.invokespecial 43, 11, 0, 0, []) := io_spec (by decide +kernel) tb_Jx4a65c_init_da8c8 (wb_7 48 rfl rfl) in_Jx4a65c_init_da8c8 rfl rfl rfl pr_Jx4a65c_init_da8c8 (by decide)
theorem r_X17_init_146 : IOK WB AD SR FW TB md_X17_init 146 (.putfield 63, 18, 20, 2, []) := io_put (by decide +kernel) fo_RX17_63 po_RX17_1_18_20_2
theorem r_X17_init_149 : IOK WB AD SR FW TB md_X17_init 149 (.aload_n 0, 0, 0, 0, []) := io_plain (by decide +kernel) rfl
theorem r_X17_init_150 : IOK WB AD SR FW TB md_X17_init 150 (.bipush 24, 0, 0, 0, []) := io_plain (by decide +kernel) rfl
theorem r_X17_init_152 : IOK WB AD SR FW TB md_X17_init 152 (.newarray .int, 0, 0, 0, []) := io_newa (by decide +kernel) (Or.inl ⟨rfl, rfl⟩) ac_int
theorem r_X17_init_154 : IOK WB AD SR FW TB md_X17_init 154 (.putfield 66, 18, 21, 2, []) := io_put (by decide +kernel) fo_RX17_66 po_RX17_1_18_21_2
theorem r_X17_init_157 : IOK WB AD SR FW TB md_X17_init 157 (.aload_n 0, 0, 0, 0, []) := io_plain (by decide +kernel) rfl
theorem r_X17_init_158 : IOK WB AD SR FW TB md_X17_init 158 (.sipush 576, 0, 0, 0, []) := io_plain (by decide +kernel) rfl
theorem r_X17_init_161 : IOK WB AD SR FW TB md_X17_init 161 (.newarray .boolean, 1, 0, 0, []) := io_newa (by decide +kernel) (Or.inr (Or.inl ⟨rfl, rfl⟩)) ac_boolean
theorem r_X17_init_163 : IOK WB AD SR FW TB md_X17_init 163 (.putfield 69, 18, 22, 2, []) := io_put (by decide +kernel) fo_RX17_69 po_RX17_1_18_22_2
theorem r_X17_init_166 : IOK WB AD SR FW TB md_X17_init 166 (.aload_n 0, 0, 0, 0, []) := io_plain (by decide +kernel) rfl
set_option maxRecDepth 100000 in
theorem ok_X17_init_1 : ∀ q ∈ tl_X17_init_1, IOK WB AD SR FW TB md_X17_init q.1 q.2 := List.forall_mem_cons.mpr ⟨r_X17_init_80, List.forall_mem_cons.mpr ⟨r_X17_init_82, List.forall_mem_cons.mpr ⟨r_X17_init_85, List.forall_mem_cons.mpr ⟨r_X17_init_86, List.forall_mem_cons.mpr ⟨r_X17_init_89, List.forall_mem_cons.mpr ⟨r_X17_init_90, List.forall_mem_cons.mpr ⟨r_X17_init_93, List.forall_mem_cons.mpr ⟨r_X17_init_96, List.forall_mem_cons.mpr ⟨r_X17_init_97, List.forall_mem_cons.mpr ⟨r_X17_init_99, List.forall_mem_cons.mpr ⟨r_X17_init_102, List.forall_mem_cons.mpr ⟨r_X17_init_105, List.forall_mem_cons.mpr ⟨r_X17_init_106, List.forall_mem_cons.mpr ⟨r_X17_init_109, List.forall_mem_cons.mpr ⟨r_X17_init_110, List.forall_mem_cons.mpr ⟨r_X17_init_113, List.forall_mem_cons.mpr ⟨r_X17_init_116, List.forall_mem_cons.mpr ⟨r_X17_init_117, List.forall_mem_cons.mpr ⟨r_X17_init_120, List.forall_mem_cons.mpr ⟨r_X17_init_121, List.forall_mem_cons.mpr ⟨r_X17_init_124, List.forall_mem_cons.mpr ⟨r_X17_init_127, List.forall_mem_cons.mpr ⟨r_X17_init_128, List.forall_mem_cons.mpr ⟨r_X17_init_131, List.forall_mem_cons.mpr ⟨r_X17_init_132, List.forall_mem_cons.mpr ⟨r_X17_init_135, List.forall_mem_cons.mpr ⟨r_X17_init_138, List.forall_mem_cons.mpr ⟨r_X17_init_139, List.forall_mem_cons.mpr ⟨r_X17_init_142, List.forall_mem_cons.mpr ⟨r_X17_init_143, List.forall_mem_cons.mpr ⟨r_X17_init_146, List.forall_mem_cons.mpr ⟨r_X17_init_149, List.forall_mem_cons.mpr ⟨r_X17_init_150, List.forall_mem_cons.mpr ⟨r_X17_init_152, List.forall_mem_cons.mpr ⟨r_X17_init_154, List.forall_mem_cons.mpr ⟨r_X17_init_157, List.forall_mem_cons.mpr ⟨r_X17_init_158, List.forall_mem_cons.mpr ⟨r_X17_init_161, List.forall_mem_cons.mpr ⟨r_X17_init_163, List.forall_mem_cons.mpr ⟨r_X17_init_166, fun _ h => absurd h List.not_mem_nil⟩⟩⟩⟩⟩⟩⟩⟩⟩⟩⟩⟩⟩⟩⟩⟩⟩⟩⟩⟩⟩⟩⟩⟩⟩⟩⟩⟩⟩⟩⟩⟩⟩⟩⟩⟩⟩⟩⟩⟩
set_option maxRecDepth 100000 in
theorem tq_X17_init_1 : tf_X17_init_1 = tl_X17_init_1.map (fun q => (q.1, stepOf NPf md_X17_init q.2)) := rfl
theorem r_X17_init_167 : IOK WB AD SR FW TB md_X17_init 167 (.iconst 0, 0, 0, 0, []) := io_plain (by decide +kernel) rfl
theorem r_X17_init_168 : IOK WB AD SR FW TB md_X17_init 168 (.anewarray 48, 0, 0, 0, []) := io_newq (by decide +kernel) (by decide) (wb_7 72 rfl rfl)
theorem r_X17_init_171 : IOK WB AD SR FW TB md_X17_init 171 (.putfield 72, 18, 28, 2, []) := io_put (by decide +kernel) fo_RX17_72 po_RX17_1_18_28_2
theorem r_X17_init_174 : IOK WB AD SR FW TB md_X17_init 174 (.aload_n 0, 0, 0, 0, []) := io_plain (by decide +kernel) rfl
theorem r_X17_init_175 : IOK WB AD SR FW TB md_X17_init 175 (.bipush 20, 0, 0, 0, []) := io_plain (by decide +kernel) rfl
theorem r_X17_init_177 : IOK WB AD SR FW TB md_X17_init 177 (.anewarray 48, 0, 0, 0, []) := io_newq (by decide +kernel) (by decide) (wb_7 72 rfl rfl)
theorem r_X17_init_180 : IOK WB AD SR FW TB md_X17_init 180 (.putfield 75, 18, 29, 2, []) := io_put (by decide +kernel) fo_RX17_75 po_RX17_1_18_29_2
theorem r_X17_init_183 : IOK WB AD SR FW TB md_X17_init 183 (.aload_n 0, 0, 0, 0, []) := io_plain (by decide +kernel) rfl
theorem r_X17_init_184 : IOK WB AD SR FW TB md_X17_init 184 (.bipush 20, 0, 0, 0, []) := io_plain (by decide +kernel) rfl
theorem r_X17_init_186 : IOK WB AD SR FW TB md_X17_init 186 (.anewarray 48, 0, 0, 0, []) := io_newq (by decide +kernel) (by decide) (wb_7 72 rfl rfl)
theorem r_X17_init_189 : IOK WB AD SR FW TB md_X17_init 189 (.putfield 78, 18, 30, 2, []) := io_put (by decide +kernel) fo_RX17_78 po_RX17_1_18_30_2
theorem r_X17_init_192 : IOK WB AD SR FW TB md_X17_init 192 (.aload_n 0, 0, 0, 0, []) := io_plain (by decide +kernel) rfl
theorem r_X17_init_193 : IOK WB AD SR FW TB md_X17_init 193 (.bipush 16, 0, 0, 0, []) := io_plain (by decide +kernel) rfl
theorem r_X17_init_195 : IOK WB AD SR FW TB md_X17_init 195 (.anewarray 48, 0, 0, 0, []) := io_newq (by decide +kernel) (by decide) (wb_7 72 rfl rfl)
theorem r_X17_init_198 : IOK WB AD SR FW TB md_X17_init 198 (.putfield 81, 18, 31, 2, []) := io_put (by decide +kernel) fo_RX17_81 po_RX17_1_18_31_2
theorem r_X17_init_201 : IOK WB AD SR FW TB md_X17_init 201 (.aload_n 0, 0, 0, 0, []) := io_plain (by decide +kernel) rfl
theorem r_X17_init_202 : IOK WB AD SR FW TB md_X17_init 202 (.bipush 32, 0, 0, 0, []) := io_plain (by decide +kernel) rfl
theorem r_X17_init_204 : IOK WB AD SR FW TB md_X17_init 204 (.anewarray 48, 0, 0, 0, []) := io_newq (by decide +kernel) (by decide) (wb_7 72 rfl rfl)
theorem r_X17_init_207 : IOK WB AD SR FW TB md_X17_init 207 (.putfield 84, 18, 32, 2, []) := io_put (by decide +kernel) fo_RX17_84 po_RX17_1_18_32_2
theorem r_X17_init_210 : IOK WB AD SR FW TB md_X17_init 210 (.aload_n 0, 0, 0, 0, []) := io_plain (by decide +kernel) rfl
theorem r_X17_init_211 : IOK WB AD SR FW TB md_X17_init 211 (.bipush 32, 0, 0, 0, []) := io_plain (by decide +kernel) rfl
theorem r_X17_init_213 : IOK WB AD SR FW TB md_X17_init 213 (.anewarray 48, 0, 0, 0, []) := io_newq (by decide +kernel) (by decide) (wb_7 72 rfl rfl)
theorem r_X17_init_216 : IOK WB AD SR FW TB md_X17_init 216 (.putfield 87, 18, 33, 2, []) := io_put (by decide +kernel) fo_RX17_87 po_RX17_1_18_33_2
theorem r_X17_init_219 : IOK WB AD SR FW TB md_X17_init 219 (.aload_n 0, 0, 0, 0, []) := io_plain (by decide +kernel) rfl
theorem r_X17_init_220 : IOK WB AD SR FW TB md_X17_init 220 (.bipush 32, 0, 0, 0, []) := io_plain (by decide +kernel) rfl
theorem r_X17_init_222 : IOK WB AD SR FW TB md_X17_init 222 (.newarray .int, 0, 0, 0, []) := io_newa (by decide +kernel) (Or.inl ⟨rfl, rfl⟩) ac_int
theorem r_X17_init_224 : IOK WB AD SR FW TB md_X17_init 224 (.putfield 90, 18, 34, 2, []) := io_put (by decide +kernel) fo_RX17_90 po_RX17_1_18_34_2
theorem r_X17_init_227 : IOK WB AD SR FW TB md_X17_init 227 (.aload_n 0, 0, 0, 0, []) := io_plain (by decide +kernel) rfl
theorem r_X17_init_228 : IOK WB AD SR FW TB md_X17_init 228 (.bipush 32, 0, 0, 0, []) := io_plain (by decide +kernel) rfl
theorem r_X17_init_230 : IOK WB AD SR FW TB md_X17_init 230 (.newarray .int, 0, 0, 0, []) := io_newa (by decide +kernel) (Or.inl ⟨rfl, rfl⟩) ac_int
theorem r_X17_init_232 : IOK WB AD SR FW TB md_X17_init 232 (.putfield 93, 18, 35, 2, []) := io_put (by decide +kernel) fo_RX17_93 po_RX17_1_18_35_2
theorem r_X17_init_235 : IOK WB AD SR FW TB md_X17_init 235 (.aload_n 0, 0, 0, 0, []) := io_plain (by decide +kernel) rfl
theorem r_X17_init_236 : IOK WB AD SR FW TB md_X17_init 236 (.bipush 10, 0, 0, 0, []) := io_plain (by decide +kernel) rfl
theorem r_X17_init_238 : IOK WB AD SR FW TB md_X17_init 238 (.anewarray 48, 0, 0, 0, []) := io_newq (by decide +kernel) (by decide) (wb_7 72 rfl rfl)
theorem r_X17_init_241 : IOK WB AD SR FW TB md_X17_init 241 (.putfield 96, 18, 36, 2, []) := io_put (by decide +kernel) fo_RX17_96 po_RX17_1_18_36_2
theorem r_X17_init_244 : IOK WB AD SR FW TB md_X17_init 244 (.aload_n 0, 0, 0, 0, []) := io_plain (by decide +kernel) rfl
theorem r_X17_init_245 : IOK WB AD SR FW TB md_X17_init 245 (.bipush 10, 0, 0, 0, []) := io_plain (by decide +kernel) rfl
theorem r_X17_init_247 : IOK WB AD SR FW TB md_X17_init 247 (.newarray .int, 0, 0, 0, []) := io_newa (by decide +kernel) (Or.inl ⟨rfl, rfl⟩) ac_int
theorem r_X17_init_249 : IOK WB AD SR FW TB md_X17_init 249 (.putfield 99, 18, 37, 2, []) := io_put (by decide +kernel) fo_RX17_99 po_RX17_1_18_37_2
theorem r_X17_init_252 : IOK WB AD SR FW TB md_X17_init 252 (.aload_n 0, 0, 0, 0, []) := io_plain (by decide +kernel) rfl
set_option maxRecDepth 100000 in
theorem ok_X17_init_2 : ∀ q ∈ tl_X17_init_2, IOK WB AD SR FW TB md_X17_init q.1 q.2 := List.forall_mem_cons.mpr ⟨r_X17_init_167, List.forall_mem_cons.mpr ⟨r_X17_init_168, List.forall_mem_cons.mpr ⟨r_X17_init_171, List.forall_mem_cons.mpr ⟨r_X17_init_174, List.forall_mem_cons.mpr ⟨r_X17_init_175, List.forall_mem_cons.mpr ⟨r_X17_init_177, List.forall_mem_cons.mpr ⟨r_X17_init_180, List.forall_mem_cons.mpr ⟨r_X17_init_183, List.forall_mem_cons.mpr ⟨r_X17_init_184, List.forall_mem_cons.mpr ⟨r_X17_init_186, List.forall_mem_cons.mpr ⟨r_X17_init_189, List.forall_mem_cons.mpr ⟨r_X17_init_192, List.forall_mem_cons.mpr ⟨r_X17_init_193, List.forall_mem_cons.mpr ⟨r_X17_init_195, List.forall_mem_cons.mpr ⟨r_X17_init_198, List.forall_mem_cons.mpr ⟨r_X17_init_201, List.forall_mem_cons.mpr ⟨r_X17_init_202, List.forall_mem_cons.mpr ⟨r_X17_init_204, List.forall_mem_cons.mpr ⟨r_X17_init_207, List.forall_mem_cons.mpr ⟨r_X17_init_210, List.forall_mem_cons.mpr ⟨r_X17_init_211, List.forall_mem_cons.mpr ⟨r_X17_init_213, List.forall_mem_cons.mpr ⟨r_X17_init_216, List.forall_mem_cons.mpr ⟨r_X17_init_219, List.forall_mem_cons.mpr ⟨r_X17_init_220, List.forall_mem_cons.mpr ⟨r_X17_init_222, List.forall_mem_cons.mpr ⟨r_X17_init_224, List.forall_mem_cons.mpr ⟨r_X17_init_227, List.forall_mem_cons.mpr ⟨r_X17_init_228, List.forall_mem_cons.mpr ⟨r_X17_init_230, List.forall_mem_cons.mpr ⟨r_X17_init_232, List.forall_mem_cons.mpr ⟨r_X17_init_235, List.forall_mem_cons.mpr ⟨r_X17_init_236, List.forall_mem_cons.mpr ⟨r_X17_init_238, List.forall_mem_cons.mpr ⟨r_X17_init_241, List.forall_mem_cons.mpr ⟨r_X17_init_244, List.forall_mem_cons.mpr ⟨r_X17_init_245, List.forall_mem_cons.mpr ⟨r_X17_init_247, List.forall_mem_cons.mpr ⟨r_X17_init_249, List.forall_mem_cons.mpr ⟨r_X17_init_252, fun _ h => absurd h List.not_mem_nil⟩⟩⟩⟩⟩⟩⟩⟩⟩⟩⟩⟩⟩⟩⟩⟩⟩⟩⟩⟩⟩⟩⟩⟩⟩⟩⟩⟩⟩⟩⟩⟩⟩⟩⟩⟩⟩⟩⟩⟩
set_option maxRecDepth 100000 in
theorem tq_X17_init_2 : tf_X17_init_2 = tl_X17_init_2.map (fun q => (q.1, stepOf NPf md_X17_init q.2)) := rfl
theorem r_X17_init_253 : IOK WB AD SR FW TB md_X17_init 253 (.bipush 96, 0, 0, 0, []) := io_plain (by decide +kernel) rfl
theorem r_X17_init_255 : IOK WB AD SR FW TB md_X17_init 255 (.anewarray 48, 0, 0, 0, []) := io_newq (by decide +kernel) (by decide) (wb_7 72 rfl rfl)
theorem r_X17_init_258 : IOK WB AD SR FW TB md_X17_init 258 (.putfield 102, 18, 41, 2, []) := io_put (by decide +kernel) fo_RX17_102 po_RX17_1_18_41_2
theorem r_X17_init_261 : IOK WB AD SR FW TB md_X17_init 261 (.aload_n 0, 0, 0, 0, []) := io_plain (by decide +kernel) rfl
theorem r_X17_init_262 : IOK WB AD SR FW TB md_X17_init 262 (.new 41, 0, 0, 0, [0, 2, 0]) := io_new (by decide +kernel) rfl no_RX17_41
theorem r_X17_init_265 : IOK WB AD SR FW TB md_X17_init 265 (.dup, 0, 0, 0, []) := io_plain (by decide +kernel) rfl
theorem r_X17_init_266 : IOK WB AD SR FW TB md_X17_init 266 (.invokespecial 43, 11, 0, 0, []) := io_spec (by decide +kernel) tb_Jx4a65c_init_da8c8 (wb_7 48 rfl rfl) in_Jx4a65c_init_da8c8 rfl rfl rfl pr_Jx4a65c_init_da8c8 (by decide)
theorem r_X17_init_269 : IOK WB AD SR FW TB md_X17_init 269 (.putfield 105, 18, 42, 2, []) := io_put (by decide +kernel) fo_RX17_105 po_RX17_1_18_42_2
theorem r_X17_init_272 : IOK WB AD SR FW TB md_X17_init 272 (.aload_n 0, 0, 0, 0, []) := io_plain (by decide +kernel) rfl
theorem r_X17_init_273 : IOK WB AD SR FW TB md_X17_init 273 (.bipush 20, 0, 0, 0, []) := io_plain (by decide +kernel) rfl
theorem r_X17_init_275 : IOK WB AD SR FW TB md_X17_init 275 (.anewarray 48, 0, 0, 0, []) := io_newq (by decide +kernel) (by decide) (wb_7 72 rfl rfl)
theorem r_X17_init_278 : IOK WB AD SR FW TB md_X17_init 278 (.putfield 108, 18, 44, 2, []) := io_put (by decide +kernel) fo_RX17_108 po_RX17_1_18_44_2
theorem r_X17_init_281 : IOK WB AD SR FW TB md_X17_init 281 (.iconst 0, 0, 0, 0, []) := io_plain (by decide +kernel) rfl
theorem r_X17_init_282 : IOK WB AD SR FW TB md_X17_init 282 (.istore_n 1, 0, 0, 0, []) := io_plain (by decide +kernel) rfl
theorem r_X17_init_283 : IOK WB AD SR FW TB md_X17_init 283 (.iload_n 1, 0, 0, 0, []) := io_plain (by decide +kernel) rfl
theorem r_X17_init_284 : IOK WB AD SR FW TB md_X17_init 284 (.bipush 16, 0, 0, 0, []) := io_plain (by decide +kernel) rfl
theorem r_X17_init_286 : IOK WB AD SR FW TB md_X17_init 286 (.if_icmp .ge 16, 0, 0, 0, []) := io_plain (by decide +kernel) rfl
theorem r_X17_init_289 : IOK WB AD SR FW TB md_X17_init 289 (.aload_n 0, 0, 0, 0, []) := io_plain (by decide +kernel) rfl
theorem r_X17_init_290 : IOK WB AD SR FW TB md_X17_init 290 (.getfield 23, 18, 7, 2, []) := io_get (by decide +kernel) fo_RX17_23
theorem r_X17_init_293 : IOK WB AD SR FW TB md_X17_init 293 (.iload_n 1, 0, 0, 0, []) := io_plain (by decide +kernel) rfl
theorem r_X17_init_294 : IOK WB AD SR FW TB md_X17_init 294 (.iconst (-1), 0, 0, 0, []) := io_plain (by decide +kernel) rfl
theorem r_X17_init_295 : IOK WB AD SR FW TB md_X17_init 295 (.iastore, 0, 0, 0, []) := io_plain (by decide +kernel) rfl
theorem r_X17_init_296 : IOK WB AD SR FW TB md_X17_init 296 (.iinc 1 1, 0, 0, 0, []) := io_plain (by decide +kernel) rfl
theorem r_X17_init_299 : IOK WB AD SR FW TB md_X17_init 299 (.goto (-16), 0, 0, 0, []) := io_plain (by decide +kernel) rfl
theorem r_X17_init_302 : IOK WB AD SR FW TB md_X17_init 302 (.iconst 0, 0, 0, 0, []) := io_plain (by decide +kernel) rfl
theorem r_X17_init_303 : IOK WB AD SR FW TB md_X17_init 303 (.istore_n 1, 0, 0, 0, []) := io_plain (by decide +kernel) rfl
theorem r_X17_init_304 : IOK WB AD SR FW TB md_X17_init 304 (.iload_n 1, 0, 0, 0, []) := io_plain (by decide +kernel) rfl
theorem r_X17_init_305 : IOK WB AD SR FW TB md_X17_init 305 (.bipush 20, 0, 0, 0, []) := io_plain (by decide +kernel) rfl
theorem r_X17_init_307 : IOK WB AD SR FW TB md_X17_init 307 (.if_icmp .ge 27, 0, 0, 0, []) := io_plain (by decide +kernel) rfl
theorem r_X17_init_310 : IOK WB AD SR FW TB md_X17_init 310 (.aload_n 0, 0, 0, 0, []) := io_plain (by decide +kernel) rfl
theorem r_X17_init_311 : IOK WB AD SR FW TB md_X17_init 311 (.getfield 75, 18, 29, 2, []) := io_get (by decide +kernel) fo_RX17_75
theorem r_X17_init_314 : IOK WB AD SR FW TB md_X17_init 314 (.iload_n 1, 0, 0, 0, []) := io_plain (by decide +kernel) rfl
theorem r_X17_init_315 : IOK WB AD SR FW TB md_X17_init 315 (.new 48, 17, 0, 0, [0, 0, 2, 0, 0, 2]) := io_new (by decide +kernel) rfl no_RX17_48
theorem r_X17_init_318 : IOK WB AD SR FW TB md_X17_init 318 (.dup, 0, 0, 0, []) := io_plain (by decide +kernel) rfl
theorem r_X17_init_319 : IOK WB AD SR FW TB md_X17_init 319 (.iload_n 1, 0, 0, 0, []) := io_plain (by decide +kernel) rfl
theorem r_X17_init_320 : IOK WB AD SR FW TB md_X17_init 320 (.aload_n 0, 0, 0, 0, []) := io_plain (by decide +kernel) rfl
theorem r_X17_init_321 : IOK WB AD SR FW TB md_X17_init 321 (.getfield 72, 18, 28, 2, []) := io_get (by decide +kernel) fo_RX17_72
theorem r_X17_init_324 : IOK WB AD SR FW TB md_X17_init 324 (.invokespecial 111, 3, 17, 0, []) := io_spec (by decide +kernel) tb_X16_init (wb_7 75 rfl rfl) in_X16_init rfl rfl rfl pr_X16_init (by decide)
theorem r_X17_init_327 : IOK WB AD SR FW TB md_X17_init 327 (.aastore, 0, 0, 0, []) := io_plain (by decide +kernel) rfl
theorem r_X17_init_328 : IOK WB AD SR FW TB md_X17_init 328 (.iinc 1 1, 0, 0, 0, []) := io_plain (by decide +kernel) rfl
set_option maxRecDepth 100000 in
theorem ok_X17_init_3 : ∀ q ∈ tl_X17_init_3, IOK WB AD SR FW TB md_X17_init q.1 q.2 := List.forall_mem_cons.mpr ⟨r_X17_init_253, List.forall_mem_cons.mpr ⟨r_X17_init_255, List.forall_mem_cons.mpr ⟨r_X17_init_258, List.forall_mem_cons.mpr ⟨r_X17_init_261, List.forall_mem_cons.mpr ⟨r_X17_init_262, List.forall_mem_cons.mpr ⟨r_X17_init_265, List.forall_mem_cons.mpr ⟨r_X17_init_266, List.forall_mem_cons.mpr ⟨r_X17_init_269, List.forall_mem_cons.mpr ⟨r_X17_init_272, List.forall_mem_cons.mpr ⟨r_X17_init_273, List.forall_mem_cons.mpr ⟨r_X17_init_275, List.forall_mem_cons.mpr ⟨r_X17_init_278, List.forall_mem_cons.mpr ⟨r_X17_init_281, List.forall_mem_cons.mpr ⟨r_X17_init_282, List.forall_mem_cons.mpr ⟨r_X17_init_283, List.forall_mem_cons.mpr ⟨r_X17_init_284, List.forall_mem_cons.mpr ⟨r_X17_init_286, List.forall_mem_cons.mpr ⟨r_X17_init_289, List.forall_mem_cons.mpr ⟨r_X17_init_290, List.forall_mem_cons.mpr ⟨r_X17_init_293, List.forall_mem_cons.mpr ⟨r_X17_init_294, List.forall_mem_cons.mpr ⟨r_X17_init_295, List.forall_mem_cons.mpr ⟨r_X17_init_296, List.forall_mem_cons.mpr ⟨r_X17_init_299, List.forall_mem_cons.mpr ⟨r_X17_init_302, List.forall_mem_cons.mpr ⟨r_X17_init_303, List.forall_mem_cons.mpr ⟨r_X17_init_304, List.forall_mem_cons.mpr ⟨r_X17_init_305, List.forall_mem_cons.mpr ⟨r_X17_init_307, List.forall_mem_cons.mpr ⟨r_X17_init_310, List.forall_mem_cons.mpr ⟨r_X17_init_311, List.forall_mem_cons.mpr ⟨r_X17_init_314, List.forall_mem_cons.mpr ⟨r_X17_init_315, List.forall_mem_cons.mpr ⟨r_X17_init_318, List.forall_mem_cons.mpr ⟨r_X17_init_319, List.forall_mem_cons.mpr ⟨r_X17_init_320, List.forall_mem_cons.mpr ⟨r_X17_init_321, List.forall_mem_cons.mpr ⟨r_X17_init_324, List.forall_mem_cons.mpr ⟨r_X17_init_327, List.forall_mem_cons.mpr ⟨r_X17_init_328, fun _ h => absurd h List.not_mem_nil⟩⟩⟩⟩⟩⟩⟩⟩⟩⟩⟩⟩⟩⟩⟩⟩⟩⟩⟩⟩⟩⟩⟩⟩⟩⟩⟩⟩⟩⟩⟩⟩⟩⟩⟩⟩⟩⟩⟩⟩
set_option maxRecDepth 100000 in
theorem tq_X17_init_3 : tf_X17_init_3 = tl_X17_init_3.map (fun q => (q.1, stepOf NPf md_X17_init q.2)) := rfl
theorem r_X17_init_331 : IOK WB AD SR FW TB md_X17_init 331 (.goto (-27), 0, 0, 0, []) := io_plain (by decide +kernel) rfl
theorem r_X17_init_334 : IOK WB AD SR FW TB md_X17_init 334 (.iconst 0, 0, 0, 0, []) := io_plain (by decide +kernel) rfl
theorem r_X17_init_335 : IOK WB AD SR FW TB md_X17_init 335 (.istore_n 1, 0, 0, 0, []) := io_plain (by decide +kernel) rfl
theorem r_X17_init_336 : IOK WB AD SR FW TB md_X17_init 336 (.iload_n 1, 0, 0, 0, []) := io_plain (by decide +kernel) rfl
theorem r_X17_init_337 : IOK WB AD SR FW TB md_X17_init 337 (.bipush 10, 0, 0, 0, []) := io_plain (by decide +kernel) rfl
theorem r_X17_init_339 : IOK WB AD SR FW TB md_X17_init 339 (.if_icmp .ge 24, 0, 0, 0, []) := io_plain (by decide +kernel) rfl
theorem r_X17_init_342 : IOK WB AD SR FW TB md_X17_init 342 (.aload_n 0, 0, 0, 0, []) := io_plain (by decide +kernel) rfl
theorem r_X17_init_343 : IOK WB AD SR FW TB md_X17_init 343 (.getfield 78, 18, 30, 2, []) := io_get (by decide +kernel) fo_RX17_78
theorem r_X17_init_346 : IOK WB AD SR FW TB md_X17_init 346 (.iload_n 1, 0, 0, 0, []) := io_plain (by decide +kernel) rfl
theorem r_X17_init_347 : IOK WB AD SR FW TB md_X17_init 347 (.aload_n 0, 0, 0, 0, []) := io_plain (by decide +kernel) rfl
theorem r_X17_init_348 : IOK WB AD SR FW TB md_X17_init 348 (.getfield 75, 18, 29, 2, []) := io_get (by decide +kernel) fo_RX17_75
theorem r_X17_init_351 : IOK WB AD SR FW TB md_X17_init 351 (.bipush 10, 0, 0, 0, []) := io_plain (by decide +kernel) rfl
theorem r_X17_init_353 : IOK WB AD SR FW TB md_X17_init 353 (.iload_n 1, 0, 0, 0, []) := io_plain (by decide +kernel) rfl
theorem r_X17_init_354 : IOK WB AD SR FW TB md_X17_init 354 (.iadd, 0, 0, 0, []) := io_plain (by decide +kernel) rfl
theorem r_X17_init_355 : IOK WB AD SR FW TB md_X17_init 355 (.aaload, 0, 0, 0, []) := io_plain (by decide +kernel) rfl
theorem r_X17_init_356 : IOK WB AD SR FW TB md_X17_init 356 (.aastore, 0, 0, 0, []) := io_plain (by decide +kernel) rfl
theorem r_X17_init_357 : IOK WB AD SR FW TB md_X17_init 357 (.iinc 1 1, 0, 0, 0, []) := io_plain (by decide +kernel) rfl
theorem r_X17_init_360 : IOK WB AD SR FW TB md_X17_init 360 (.goto (-24), 0, 0, 0, []) := io_plain (by decide +kernel) rfl
theorem r_X17_init_363 : IOK WB AD SR FW TB md_X17_init 363 (.return_, 0, 0, 0, []) := io_void (by decide +kernel) rfl
set_option maxRecDepth 100000 in
theorem ok_X17_init_4 : ∀ q ∈ tl_X17_init_4, IOK WB AD SR FW TB md_X17_init q.1 q.2 := List.forall_mem_cons.mpr ⟨r_X17_init_331, List.forall_mem_cons.mpr ⟨r_X17_init_334, List.forall_mem_cons.mpr ⟨r_X17_init_335, List.forall_mem_cons.mpr ⟨r_X17_init_336, List.forall_mem_cons.mpr ⟨r_X17_init_337, List.forall_mem_cons.mpr ⟨r_X17_init_339, List.forall_mem_cons.mpr ⟨r_X17_init_342, List.forall_mem_cons.mpr ⟨r_X17_init_343, List.forall_mem_cons.mpr ⟨r_X17_init_346, List.forall_mem_cons.mpr ⟨r_X17_init_347, List.forall_mem_cons.mpr ⟨r_X17_init_348, List.forall_mem_cons.mpr ⟨r_X17_init_351, List.forall_mem_cons.mpr ⟨r_X17_init_353, List.forall_mem_cons.mpr ⟨r_X17_init_354, List.forall_mem_cons.mpr ⟨r_X17_init_355, List.forall_mem_cons.mpr ⟨r_X17_init_356, List.forall_mem_cons.mpr ⟨r_X17_init_357, List.forall_mem_cons.mpr ⟨r_X17_init_360, List.forall_mem_cons.mpr ⟨r_X17_init_363, fun _ h => absurd h List.not_mem_nil⟩⟩⟩⟩⟩⟩⟩⟩⟩⟩⟩⟩⟩⟩⟩⟩⟩⟩⟩
set_option maxRecDepth 100000 in
theorem tq_X17_init_4 : tf_X17_init_4 = tl_X17_init_4.map (fun q => (q.1, stepOf NPf md_X17_init q.2)) := rfl
theorem ro_X17_init : RowsOK (md_X17_init, tl_X17_init) tf_X17_init := rows_app ⟨tq_X17_init_0, ok_X17_init_0⟩ (rows_app ⟨tq_X17_init_1, ok_X17_init_1⟩ (rows_app ⟨tq_X17_init_2, ok_X17_init_2⟩ (rows_app ⟨tq_X17_init_3, ok_X17_init_3⟩ (⟨tq_X17_init_4, ok_X17_init_4⟩))))
theorem r_J7_fill_53178_0 : IOK WB AD SR FW TB md_J7_fill_53178 0 (.iconst 0, 0, 0, 0, []) := io_plain (by decide +kernel) rfl
theorem r_J7_fill_53178_1 : IOK WB AD SR FW TB md_J7_fill_53178 1 (.istore_n 2, 0, 0, 0, []) := io_plain (by decide +kernel) rfl
theorem r_J7_fill_53178_2 : IOK WB AD SR FW TB md_J7_fill_53178 2 (.aload_n 0, 0, 0, 0, []) := io_plain (by decide +kernel) rfl
theorem r_J7_fill_53178_3 : IOK WB AD SR FW TB md_J7_fill_53178 3 (.arraylength, 0, 0, 0, []) := io_plain (by decide +kernel) rfl
theorem r_J7_fill_53178_4 : IOK WB AD SR FW TB md_J7_fill_53178 4 (.istore_n 3, 0, 0, 0, []) := io_plain (by decide +kernel) rfl
theorem r_J7_fill_53178_5 : IOK WB AD SR FW TB md_J7_fill_53178 5 (.iload_n 2, 0, 0, 0, []) := io_plain (by decide +kernel) rfl
theorem r_J7_fill_53178_6 : IOK WB AD SR FW TB md_J7_fill_53178 6 (.iload_n 3, 0, 0, 0, []) := io_plain (by decide +kernel) rfl
theorem r_J7_fill_53178_7 : IOK WB AD SR FW TB md_J7_fill_53178 7 (.if_icmp .ge 13, 0, 0, 0, []) := io_plain (by decide +kernel) rfl
theorem r_J7_fill_53178_10 : IOK WB AD SR FW TB md_J7_fill_53178 10 (.aload_n 0, 0, 0, 0, []) := io_plain (by decide +kernel) rfl
theorem r_J7_fill_53178_11 : IOK WB AD SR FW TB md_J7_fill_53178 11 (.iload_n 2, 0, 0, 0, []) := io_plain (by decide +kernel) rfl
theorem r_J7_fill_53178_12 : IOK WB AD SR FW TB md_J7_fill_53178 12 (.iload_n 1, 0, 0, 0, []) := io_plain (by decide +kernel) rfl
theorem r_J7_fill_53178_13 : IOK WB AD SR FW TB md_J7_fill_53178 13 (.iastore, 0, 0, 0, []) := io_plain (by decide +kernel) rfl
theorem r_J7_fill_53178_14 : IOK WB AD SR FW TB md_J7_fill_53178 14 (.iinc 2 1, 0, 0, 0, []) := io_plain (by decide +kernel) rfl
theorem r_J7_fill_53178_17 : IOK WB AD SR FW TB md_J7_fill_53178 17 (.goto (-12), 0, 0, 0, []) := io_plain (by decide +kernel) rfl
theorem r_J7_fill_53178_20 : IOK WB AD SR FW TB md_J7_fill_53178 20 (.return_, 0, 0, 0, []) := io_void (by decide +kernel) rfl
set_option maxRecDepth 100000 in
theorem ok_J7_fill_53178_0 : ∀ q ∈ tl_J7_fill_53178, IOK WB AD SR FW TB md_J7_fill_53178 q.1 q.2 := List.forall_mem_cons.mpr ⟨r_J7_fill_53178_0, List.forall_mem_cons.mpr ⟨r_J7_fill_53178_1, List.forall_mem_cons.mpr ⟨r_J7_fill_53178_2, List.forall_mem_cons.mpr ⟨r_J7_fill_53178_3, List.forall_mem_cons.mpr ⟨r_J7_fill_53178_4, List.forall_mem_cons.mpr ⟨r_J7_fill_53178_5, List.forall_mem_cons.mpr ⟨r_J7_fill_53178_6, List.forall_mem_cons.mpr ⟨r_J7_fill_53178_7, List.forall_mem_cons.mpr ⟨r_J7_fill_53178_10, List.forall_mem_cons.mpr ⟨r_J7_fill_53178_11, List.forall_mem_cons.mpr ⟨r_J7_fill_53178_12, List.forall_mem_cons.mpr ⟨r_J7_fill_53178_13, List.forall_mem_cons.mpr ⟨r_J7_fill_53178_14, List.forall_mem_cons.mpr ⟨r_J7_fill_53178_17, List.forall_mem_cons.mpr ⟨r_J7_fill_53178_20, fun _ h => absurd h List.not_mem_nil⟩⟩⟩⟩⟩⟩⟩⟩⟩⟩⟩⟩⟩⟩⟩
set_option maxRecDepth 100000 in
theorem tq_J7_fill_53178_0 : tf_J7_fill_53178 = tl_J7_fill_53178.map (fun q => (q.1, stepOf NPf md_J7_fill_53178 q.2)) := rfl
theorem ro_J7_fill_53178 : RowsOK (md_J7_fill_53178, tl_J7_fill_53178) tf_J7_fill_53178 := ⟨tq_J7_fill_53178_0, ok_J7_fill_53178_0⟩
theorem r_X16_init_0 : IOK WB AD SR FW TB md_X16_init 0 (.aload_n 0, 0, 0, 0, []) := io_plain (by decide +kernel) rfl
theorem r_X16_init_1 : IOK WB AD SR FW TB md_X16_init 1 (.invokespecial 3, 1000, 0, 0, []) := io_obj (by decide +kernel) (wb_7 78 rfl rfl) ob_1 ob_2
theorem r_X16_init_4 : IOK WB AD SR FW TB md_X16_init 4 (.aload_n 0, 0, 0, 0, []) := io_plain (by decide +kernel) rfl
theorem r_X16_init_5 : IOK WB AD SR FW TB md_X16_init 5 (.iconst (-1), 0, 0, 0, []) := io_plain (by decide +kernel) rfl
theorem r_X16_init_6 : IOK WB AD SR FW TB md_X16_init 6 (.putfield 9, 17, 4, 0, []) := io_put (by decide +kernel) fo_RX16_9 po_RX16_1_17_4_0
theorem r_X16_init_9 : IOK WB AD SR FW TB md_X16_init 9 (.aload_n 0, 0, 0, 0, []) := io_plain (by decide +kernel) rfl
theorem r_X16_init_10 : IOK WB AD SR FW TB md_X16_init 10 (.iload_n 1, 0, 0, 0, []) := io_plain (by decide +kernel) rfl
theorem r_X16_init_11 : IOK WB AD SR FW TB md_X16_init 11 (.putfield 15, 17, 0, 0, []) := io_put (by decide +kernel) fo_RX16_15 po_RX16_1_17_0_0
theorem r_X16_init_14 : IOK WB AD SR FW TB md_X16_init 14 (.aload_n 0, 0, 0, 0, []) := io_plain (by decide +kernel) rfl
theorem r_X16_init_15 : IOK WB AD SR FW TB md_X16_init 15 (.iconst (-1), 0, 0, 0, []) := io_plain (by decide +kernel) rfl
theorem r_X16_init_16 : IOK WB AD SR FW TB md_X16_init 16 (.putfield 18, 17, 1, 0, []) := io_put (by decide +kernel) fo_RX16_18 po_RX16_1_17_1_0
theorem r_X16_init_19 : IOK WB AD SR FW TB md_X16_init 19 (.aload_n 0, 0, 0, 0, []) := io_plain (by decide +kernel) rfl
theorem r_X16_init_20 : IOK WB AD SR FW TB md_X16_init 20 (.aload_n 2, 0, 0, 0, []) := io_plain (by decide +kernel) rfl
theorem r_X16_init_21 : IOK WB AD SR FW TB md_X16_init 21 (.putfield 21, 17, 2, 2, []) := io_put (by decide +kernel) fo_RX16_21 po_RX16_1_17_2_2
theorem r_X16_init_24 : IOK WB AD SR FW TB md_X16_init 24 (.aload_n 0, 0, 0, 0, []) := io_plain (by decide +kernel) rfl
theorem r_X16_init_25 : IOK WB AD SR FW TB md_X16_init 25 (.iconst 1, 0, 0, 0, []) := io_plain (by decide +kernel) rfl
theorem r_X16_init_26 : IOK WB AD SR FW TB md_X16_init 26 (.putfield 25, 17, 3, 0, []) := io_put (by decide +kernel) fo_RX16_25 po_RX16_1_17_3_0
theorem r_X16_init_29 : IOK WB AD SR FW TB md_X16_init 29 (.return_, 0, 0, 0, []) := io_void (by decide +kernel) rfl
set_option maxRecDepth 100000 in
theorem ok_X16_init_0 : ∀ q ∈ tl_X16_init, IOK WB AD SR FW TB md_X16_init q.1 q.2 := List.forall_mem_cons.mpr ⟨r_X16_init_0, List.forall_mem_cons.mpr ⟨r_X16_init_1, List.forall_mem_cons.mpr ⟨r_X16_init_4, List.forall_mem_cons.mpr ⟨r_X16_init_5, List.forall_mem_cons.mpr ⟨r_X16_init_6, List.forall_mem_cons.mpr ⟨r_X16_init_9, List.forall_mem_cons.mpr ⟨r_X16_init_10, List.forall_mem_cons.mpr ⟨r_X16_init_11, List.forall_mem_cons.mpr ⟨r_X16_init_14, List.forall_mem_cons.mpr ⟨r_X16_init_15, List.forall_mem_cons.mpr ⟨r_X16_init_16, List.forall_mem_cons.mpr ⟨r_X16_init_19, List.forall_mem_cons.mpr ⟨r_X16_init_20, List.forall_mem_cons.mpr ⟨r_X16_init_21, List.forall_mem_cons.mpr ⟨r_X16_init_24, List.forall_mem_cons.mpr ⟨r_X16_init_25, List.forall_mem_cons.mpr ⟨r_X16_init_26, List.forall_mem_cons.mpr ⟨r_X16_init_29, fun _ h => absurd h List.not_mem_nil⟩⟩⟩⟩⟩⟩⟩⟩⟩⟩⟩⟩⟩⟩⟩⟩⟩⟩
set_option maxRecDepth 100000 in
theorem tq_X16_init_0 : tf_X16_init = tl_X16_init.map (fun q => (q.1, stepOf NPf md_X16_init q.2)) := rfl
theorem ro_X16_init : RowsOK (md_X16_init, tl_X16_init) tf_X16_init := ⟨tq_X16_init_0, ok_X16_init_0⟩
theorem r_X8_init_0 : IOK WB AD SR FW TB md_X8_init 0 (.aload_n 0, 0, 0, 0, []) := io_plain (by decide +kernel) rfl
theorem r_X8_init_1 : IOK WB AD SR FW TB md_X8_init 1 (.invokespecial 3, 1000, 0, 0, []) := io_obj (by decide +kernel) (wb_1 114 rfl rfl) ob_1 ob_2
theorem r_X8_init_4 : IOK WB AD SR FW TB md_X8_init 4 (.aload_n 0, 0, 0, 0, []) := io_plain (by decide +kernel) rfl
theorem r_X8_init_5 : IOK WB AD SR FW TB md_X8_init 5 (.sipush 27500, 0, 0, 0, []) := io_plain (by decide +kernel) rfl
theorem r_X8_init_8 : IOK WB AD SR FW TB md_X8_init 8 (.newarray .int, 0, 0, 0, []) := io_newa (by decide +kernel) (Or.inl ⟨rfl, rfl⟩) ac_int
theorem r_X8_init_10 : IOK WB AD SR FW TB md_X8_init 10 (.putfield 9, 9, 1, 2, []) := io_put (by decide +kernel) fo_RX8_9 po_RX8_1_9_1_2
theorem r_X8_init_13 : IOK WB AD SR FW TB md_X8_init 13 (.aload_n 0, 0, 0, 0, []) := io_plain (by decide +kernel) rfl
theorem r_X8_init_14 : IOK WB AD SR FW TB md_X8_init 14 (.sipush 7500, 0, 0, 0, []) := io_plain (by decide +kernel) rfl
theorem r_X8_init_17 : IOK WB AD SR FW TB md_X8_init 17 (.putfield 15, 9, 2, 0, []) := io_put (by decide +kernel) fo_RX8_15 po_RX8_1_9_2_0
theorem r_X8_init_20 : IOK WB AD SR FW TB md_X8_init 20 (.aload_n 0, 0, 0, 0, []) := io_plain (by decide +kernel) rfl
theorem r_X8_init_21 : IOK WB AD SR FW TB md_X8_init 21 (.sipush 1280, 0, 0, 0, []) := io_plain (by decide +kernel) rfl
theorem r_X8_init_24 : IOK WB AD SR FW TB md_X8_init 24 (.newarray .int, 0, 0, 0, []) := io_newa (by decide +kernel) (Or.inl ⟨rfl, rfl⟩) ac_int
theorem r_X8_init_26 : IOK WB AD SR FW TB md_X8_init 26 (.putfield 19, 9, 3, 2, []) := io_put (by decide +kernel) fo_RX8_19 po_RX8_1_9_3_2
theorem r_X8_init_29 : IOK WB AD SR FW TB md_X8_init 29 (.aload_n 0, 0, 0, 0, []) := io_plain (by decide +kernel) rfl
theorem r_X8_init_30 : IOK WB AD SR FW TB md_X8_init 30 (.iconst 5, 0, 0, 0, []) := io_plain (by decide +kernel) rfl
theorem r_X8_init_31 : IOK WB AD SR FW TB md_X8_init 31 (.newarray .int, 0, 0, 0, []) := io_newa (by decide +kernel) (Or.inl ⟨rfl, rfl⟩) ac_int
theorem r_X8_init_33 : IOK WB AD SR FW TB md_X8_init 33 (.putfield 22, 9, 5, 2, []) := io_put (by decide +kernel) fo_RX8_22 po_RX8_1_9_5_2
theorem r_X8_init_36 : IOK WB AD SR FW TB md_X8_init 36 (.aload_n 0, 0, 0, 0, []) := io_plain (by decide +kernel) rfl
theorem r_X8_init_37 : IOK WB AD SR FW TB md_X8_init 37 (.iconst 5, 0, 0, 0, []) := io_plain (by decide +kernel) rfl
theorem r_X8_init_38 : IOK WB AD SR FW TB md_X8_init 38 (.newarray .int, 0, 0, 0, []) := io_newa (by decide +kernel) (Or.inl ⟨rfl, rfl⟩) ac_int
theorem r_X8_init_40 : IOK WB AD SR FW TB md_X8_init 40 (.putfield 25, 9, 6, 2, []) := io_put (by decide +kernel) fo_RX8_25 po_RX8_1_9_6_2
theorem r_X8_init_43 : IOK WB AD SR FW TB md_X8_init 43 (.aload_n 0, 0, 0, 0, []) := io_plain (by decide +kernel) rfl
theorem r_X8_init_44 : IOK WB AD SR FW TB md_X8_init 44 (.bipush 20, 0, 0, 0, []) := io_plain (by decide +kernel) rfl
theorem r_X8_init_46 : IOK WB AD SR FW TB md_X8_init 46 (.newarray .int, 0, 0, 0, []) := io_newa (by decide +kernel) (Or.inl ⟨rfl, rfl⟩) ac_int
theorem r_X8_init_48 : IOK WB AD SR FW TB md_X8_init 48 (.putfield 28, 9, 7, 2, []) := io_put (by decide +kernel) fo_RX8_28 po_RX8_1_9_7_2
theorem r_X8_init_51 : IOK WB AD SR FW TB md_X8_init 51 (.aload_n 0, 0, 0, 0, []) := io_plain (by decide +kernel) rfl
theorem r_X8_init_52 : IOK WB AD SR FW TB md_X8_init 52 (.iconst (-1), 0, 0, 0, []) := io_plain (by decide +kernel) rfl
theorem r_X8_init_53 : IOK WB AD SR FW TB md_X8_init 53 (.putfield 31, 9, 8, 0, []) := io_put (by decide +kernel) fo_RX8_31 po_RX8_1_9_8_0
theorem r_X8_init_56 : IOK WB AD SR FW TB md_X8_init 56 (.aload_n 0, 0, 0, 0, []) := io_plain (by decide +kernel) rfl
theorem r_X8_init_57 : IOK WB AD SR FW TB md_X8_init 57 (.iconst (-1), 0, 0, 0, []) := io_plain (by decide +kernel) rfl
theorem r_X8_init_58 : IOK WB AD SR FW TB md_X8_init 58 (.putfield 34, 9, 9, 0, []) := io_put (by decide +kernel) fo_RX8_34 po_RX8_1_9_9_0
theorem r_X8_init_61 : IOK WB AD SR FW TB md_X8_init 61 (.aload_n 0, 0, 0, 0, []) := io_plain (by decide +kernel) rfl
theorem r_X8_init_62 : IOK WB AD SR FW TB md_X8_init 62 (.aload_n 1, 0, 0, 0, []) := io_plain (by decide +kernel) rfl
theorem r_X8_init_63 : IOK WB AD SR FW TB md_X8_init 63 (.putfield 37, 9, 0, 2, []) := io_put (by decide +kernel) fo_RX8_37 po_RX8_1_9_0_2
theorem r_X8_init_66 : IOK WB AD SR FW TB md_X8_init 66 (.iconst 0, 0, 0, 0, []) := io_plain (by decide +kernel) rfl
theorem r_X8_init_67 : IOK WB AD SR FW TB md_X8_init 67 (.istore_n 2, 0, 0, 0, []) := io_plain (by decide +kernel) rfl
theorem r_X8_init_68 : IOK WB AD SR FW TB md_X8_init 68 (.iload_n 2, 0, 0, 0, []) := io_plain (by decide +kernel) rfl
theorem r_X8_init_69 : IOK WB AD SR FW TB md_X8_init 69 (.bipush 20, 0, 0, 0, []) := io_plain (by decide +kernel) rfl
theorem r_X8_init_71 : IOK WB AD SR FW TB md_X8_init 71 (.if_icmp .ge 16, 0, 0, 0, []) := io_plain (by decide +kernel) rfl
theorem r_X8_init_74 : IOK WB AD SR FW TB md_X8_init 74 (.aload_n 0, 0, 0, 0, []) := io_plain (by decide +kernel) rfl
set_option maxRecDepth 100000 in
theorem ok_X8_init_0 : ∀ q ∈ tl_X8_init_0, IOK WB AD SR FW TB md_X8_init q.1 q.2 := List.forall_mem_cons.mpr ⟨r_X8_init_0, List.forall_mem_cons.mpr ⟨r_X8_init_1, List.forall_mem_cons.mpr ⟨r_X8_init_4, List.forall_mem_cons.mpr ⟨r_X8_init_5, List.forall_mem_cons.mpr ⟨r_X8_init_8, List.forall_mem_cons.mpr ⟨r_X8_init_10, List.forall_mem_cons.mpr ⟨r_X8_init_13, List.forall_mem_cons.mpr ⟨r_X8_init_14, List.forall_mem_cons.mpr ⟨r_X8_init_17, List.forall_mem_cons.mpr ⟨r_X8_init_20, List.forall_mem_cons.mpr ⟨r_X8_init_21, List.forall_mem_cons.mpr ⟨r_X8_init_24, List.forall_mem_cons.mpr ⟨r_X8_init_26, List.forall_mem_cons.mpr ⟨r_X8_init_29, List.forall_mem_cons.mpr ⟨r_X8_init_30, List.forall_mem_cons.mpr ⟨r_X8_init_31, List.forall_mem_cons.mpr ⟨r_X8_init_33, List.forall_mem_cons.mpr ⟨r_X8_init_36, List.forall_mem_cons.mpr ⟨r_X8_init_37, List.forall_mem_cons.mpr ⟨r_X8_init_38, List.forall_mem_cons.mpr ⟨r_X8_init_40, List.forall_mem_cons.mpr ⟨r_X8_init_43, List.forall_mem_cons.mpr ⟨r_X8_init_44, List.forall_mem_cons.mpr ⟨r_X8_init_46, List.forall_mem_cons.mpr ⟨r_X8_init_48, List.forall_mem_cons.mpr ⟨r_X8_init_51, List.forall_mem_cons.mpr ⟨r_X8_init_52, List.forall_mem_cons.mpr ⟨r_X8_init_53, List.forall_mem_cons.mpr ⟨r_X8_init_56, List.forall_mem_cons.mpr ⟨r_X8_init_57, List.forall_mem_cons.mpr ⟨r_X8_init_58, List.forall_mem_cons.mpr ⟨r_X8_init_61, List.forall_mem_cons.mpr ⟨r_X8_init_62, List.forall_mem_cons.mpr ⟨r_X8_init_63, List.forall_mem_cons.mpr ⟨r_X8_init_66, List.forall_mem_cons.mpr ⟨r_X8_init_67, List.forall_mem_cons.mpr ⟨r_X8_init_68, List.forall_mem_cons.mpr ⟨r_X8_init_69, List.forall_mem_cons.mpr ⟨r_X8_init_71, List.forall_mem_cons.mpr ⟨r_X8_init_74, fun _ h => absurd h List.not_mem_nil⟩⟩⟩⟩⟩⟩⟩⟩⟩⟩⟩⟩⟩⟩⟩⟩⟩⟩⟩⟩⟩⟩⟩⟩⟩⟩⟩⟩⟩⟩⟩⟩⟩⟩⟩⟩⟩⟩⟩⟩
set_option maxRecDepth 100000 in
theorem tq_X8_init_0 : tf_X8_init_0 = tl_X8_init_0.map (fun q => (q.1, stepOf NPf md_X8_init q.2)) := rfl
theorem r_X8_init_75 : IOK WB AD SR FW TB md_X8_init 75 (.getfield 9, 9, 1, 2, []) := io_get (by decide +kernel) fo_RX8_9
theorem r_X8_init_78 : IOK WB AD SR FW TB md_X8_init 78 (.iload_n 2, 0, 0, 0, []) := io_plain (by decide +kernel) rfl
theorem r_X8_init_79 : IOK WB AD SR FW TB md_X8_init 79 (.iload_n 2, 0, 0, 0, []) := io_plain (by decide +kernel) rfl
theorem r_X8_init_80 : IOK WB AD SR FW TB md_X8_init 80 (.iastore, 0, 0, 0, []) := io_plain (by decide +kernel) rfl
theorem r_X8_init_81 : IOK WB AD SR FW TB md_X8_init 81 (.iinc 2 1, 0, 0, 0, []) := io_plain (by decide +kernel) rfl
theorem r_X8_init_84 : IOK WB AD SR FW TB md_X8_init 84 (.goto (-16), 0, 0, 0, []) := io_plain (by decide +kernel) rfl
theorem r_X8_init_87 : IOK WB AD SR FW TB md_X8_init 87 (.return_, 0, 0, 0, []) := io_void (by decide +kernel) rfl
set_option maxRecDepth 100000 in
theorem ok_X8_init_1 : ∀ q ∈ tl_X8_init_1, IOK WB AD SR FW TB md_X8_init q.1 q.2 := List.forall_mem_cons.mpr ⟨r_X8_init_75, List.forall_mem_cons.mpr ⟨r_X8_init_78, List.forall_mem_cons.mpr ⟨r_X8_init_79, List.forall_mem_cons.mpr ⟨r_X8_init_80, List.forall_mem_cons.mpr ⟨r_X8_init_81, List.forall_mem_cons.mpr ⟨r_X8_init_84, List.forall_mem_cons.mpr ⟨r_X8_init_87, fun _ h => absurd h List.not_mem_nil⟩⟩⟩⟩⟩⟩⟩
set_option maxRecDepth 100000 in
theorem tq_X8_init_1 : tf_X8_init_1 = tl_X8_init_1.map (fun q => (q.1, stepOf NPf md_X8_init q.2)) := rfl
theorem ro_X8_init : RowsOK (md_X8_init, tl_X8_init) tf_X8_init := rows_app ⟨tq_X8_init_0, ok_X8_init_0⟩ (⟨tq_X8_init_1, ok_X8_init_1⟩)
theorem r_X7_init_0 : IOK WB AD SR FW TB md_X7_init 0 (.aload_n 0, 0, 0, 0, []) := io_plain (by decide +kernel) rfl
theorem r_X7_init_1 : IOK WB AD SR FW TB md_X7_init 1 (.invokespecial 3, 1000, 0, 0, []) := io_obj (by decide +kernel) (wb_1 48 rfl rfl) ob_1 ob_2
theorem r_X7_init_4 : IOK WB AD SR FW TB md_X7_init 4 (.aload_n 0, 0, 0, 0, []) := io_plain (by decide +kernel) rfl
theorem r_X7_init_5 : IOK WB AD SR FW TB md_X7_init 5 (.bipush 9, 0, 0, 0, []) := io_plain (by decide +kernel) rfl
theorem r_X7_init_7 : IOK WB AD SR FW TB md_X7_init 7 (.newarray .int, 0, 0, 0, []) := io_newa (by decide +kernel) (Or.inl ⟨rfl, rfl⟩) ac_int
theorem r_X7_init_9 : IOK WB AD SR FW TB md_X7_init 9 (.putfield 9, 8, 2, 2, []) := io_put (by decide +kernel) fo_RX7_9 po_RX7_1_8_2_2
theorem r_X7_init_12 : IOK WB AD SR FW TB md_X7_init 12 (.aload_n 0, 0, 0, 0, []) := io_plain (by decide +kernel) rfl
theorem r_X7_init_13 : IOK WB AD SR FW TB md_X7_init 13 (.bipush 10, 0, 0, 0, []) := io_plain (by decide +kernel) rfl
theorem r_X7_init_15 : IOK WB AD SR FW TB md_X7_init 15 (.newarray .int, 0, 0, 0, []) := io_newa (by decide +kernel) (Or.inl ⟨rfl, rfl⟩) ac_int
theorem r_X7_init_17 : IOK WB AD SR FW TB md_X7_init 17 (.putfield 15, 8, 3, 2, []) := io_put (by decide +kernel) fo_RX7_15 po_RX7_1_8_3_2
theorem r_X7_init_20 : IOK WB AD SR FW TB md_X7_init 20 (.aload_n 0, 0, 0, 0, []) := io_plain (by decide +kernel) rfl
theorem r_X7_init_21 : IOK WB AD SR FW TB md_X7_init 21 (.bipush 16, 0, 0, 0, []) := io_plain (by decide +kernel) rfl
theorem r_X7_init_23 : IOK WB AD SR FW TB md_X7_init 23 (.newarray .int, 0, 0, 0, []) := io_newa (by decide +kernel) (Or.inl ⟨rfl, rfl⟩) ac_int
theorem r_X7_init_25 : IOK WB AD SR FW TB md_X7_init 25 (.putfield 18, 8, 4, 2, []) := io_put (by decide +kernel) fo_RX7_18 po_RX7_1_8_4_2
theorem r_X7_init_28 : IOK WB AD SR FW TB md_X7_init 28 (.aload_n 0, 0, 0, 0, []) := io_plain (by decide +kernel) rfl
theorem r_X7_init_29 : IOK WB AD SR FW TB md_X7_init 29 (.bipush 16, 0, 0, 0, []) := io_plain (by decide +kernel) rfl
theorem r_X7_init_31 : IOK WB AD SR FW TB md_X7_init 31 (.newarray .int, 0, 0, 0, []) := io_newa (by decide +kernel) (Or.inl ⟨rfl, rfl⟩) ac_int
theorem r_X7_init_33 : IOK WB AD SR FW TB md_X7_init 33 (.putfield 21, 8, 5, 2, []) := io_put (by decide +kernel) fo_RX7_21 po_RX7_1_8_5_2
theorem r_X7_init_36 : IOK WB AD SR FW TB md_X7_init 36 (.aload_n 0, 0, 0, 0, []) := io_plain (by decide +kernel) rfl
theorem r_X7_init_37 : IOK WB AD SR FW TB md_X7_init 37 (.bipush 16, 0, 0, 0, []) := io_plain (by decide +kernel) rfl
theorem r_X7_init_39 : IOK WB AD SR FW TB md_X7_init 39 (.newarray .int, 0, 0, 0, []) := io_newa (by decide +kernel) (Or.inl ⟨rfl, rfl⟩) ac_int
theorem r_X7_init_41 : IOK WB AD SR FW TB md_X7_init 41 (.putfield 24, 8, 6, 2, []) := io_put (by decide +kernel) fo_RX7_24 po_RX7_1_8_6_2
theorem r_X7_init_44 : IOK WB AD SR FW TB md_X7_init 44 (.aload_n 0, 0, 0, 0, []) := io_plain (by decide +kernel) rfl
theorem r_X7_init_45 : IOK WB AD SR FW TB md_X7_init 45 (.bipush 16, 0, 0, 0, []) := io_plain (by decide +kernel) rfl
theorem r_X7_init_47 : IOK WB AD SR FW TB md_X7_init 47 (.newarray .int, 0, 0, 0, []) := io_newa (by decide +kernel) (Or.inl ⟨rfl, rfl⟩) ac_int
theorem r_X7_init_49 : IOK WB AD SR FW TB md_X7_init 49 (.putfield 27, 8, 7, 2, []) := io_put (by decide +kernel) fo_RX7_27 po_RX7_1_8_7_2
theorem r_X7_init_52 : IOK WB AD SR FW TB md_X7_init 52 (.aload_n 0, 0, 0, 0, []) := io_plain (by decide +kernel) rfl
theorem r_X7_init_53 : IOK WB AD SR FW TB md_X7_init 53 (.sipush 192, 0, 0, 0, []) := io_plain (by decide +kernel) rfl
theorem r_X7_init_56 : IOK WB AD SR FW TB md_X7_init 56 (.newarray .int, 0, 0, 0, []) := io_newa (by decide +kernel) (Or.inl ⟨rfl, rfl⟩) ac_int
theorem r_X7_init_58 : IOK WB AD SR FW TB md_X7_init 58 (.putfield 30, 8, 8, 2, []) := io_put (by decide +kernel) fo_RX7_30 po_RX7_1_8_8_2
theorem r_X7_init_61 : IOK WB AD SR FW TB md_X7_init 61 (.aload_n 0, 0, 0, 0, []) := io_plain (by decide +kernel) rfl
theorem r_X7_init_62 : IOK WB AD SR FW TB md_X7_init 62 (.bipush 64, 0, 0, 0, []) := io_plain (by decide +kernel) rfl
theorem r_X7_init_64 : IOK WB AD SR FW TB md_X7_init 64 (.newarray .int, 0, 0, 0, []) := io_newa (by decide +kernel) (Or.inl ⟨rfl, rfl⟩) ac_int
theorem r_X7_init_66 : IOK WB AD SR FW TB md_X7_init 66 (.putfield 33, 8, 9, 2, []) := io_put (by decide +kernel) fo_RX7_33 po_RX7_1_8_9_2
theorem r_X7_init_69 : IOK WB AD SR FW TB md_X7_init 69 (.aload_n 0, 0, 0, 0, []) := io_plain (by decide +kernel) rfl
theorem r_X7_init_70 : IOK WB AD SR FW TB md_X7_init 70 (.bipush 16, 0, 0, 0, []) := io_plain (by decide +kernel) rfl
theorem r_X7_init_72 : IOK WB AD SR FW TB md_X7_init 72 (.newarray .int, 0, 0, 0, []) := io_newa (by decide +kernel) (Or.inl ⟨rfl, rfl⟩) ac_int
theorem r_X7_init_74 : IOK WB AD SR FW TB md_X7_init 74 (.putfield 36, 8, 10, 2, []) := io_put (by decide +kernel) fo_RX7_36 po_RX7_1_8_10_2
theorem r_X7_init_77 : IOK WB AD SR FW TB md_X7_init 77 (.iconst 0, 0, 0, 0, []) := io_plain (by decide +kernel) rfl
theorem r_X7_init_78 : IOK WB AD SR FW TB md_X7_init 78 (.istore_n 1, 0, 0, 0, []) := io_plain (by decide +kernel) rfl
set_option maxRecDepth 100000 in
theorem ok_X7_init_0 : ∀ q ∈ tl_X7_init_0, IOK WB AD SR FW TB md_X7_init q.1 q.2 := List.forall_mem_cons.mpr ⟨r_X7_init_0, List.forall_mem_cons.mpr ⟨r_X7_init_1, List.forall_mem_cons.mpr ⟨r_X7_init_4, List.forall_mem_cons.mpr ⟨r_X7_init_5, List.forall_mem_cons.mpr ⟨r_X7_init_7, List.forall_mem_cons.mpr ⟨r_X7_init_9, List.forall_mem_cons.mpr ⟨r_X7_init_12, List.forall_mem_cons.mpr ⟨r_X7_init_13, List.forall_mem_cons.mpr ⟨r_X7_init_15, List.forall_mem_cons.mpr ⟨r_X7_init_17, List.forall_mem_cons.mpr ⟨r_X7_init_20, List.forall_mem_cons.mpr ⟨r_X7_init_21, List.forall_mem_cons.mpr ⟨r_X7_init_23, List.forall_mem_cons.mpr ⟨r_X7_init_25, List.forall_mem_cons.mpr ⟨r_X7_init_28, List.forall_mem_cons.mpr ⟨r_X7_init_29, List.forall_mem_cons.mpr ⟨r_X7_init_31, List.forall_mem_cons.mpr ⟨r_X7_init_33, List.forall_mem_cons.mpr ⟨r_X7_init_36, List.forall_mem_cons.mpr ⟨r_X7_init_37, List.forall_mem_cons.mpr ⟨r_X7_init_39, List.forall_mem_cons.mpr ⟨r_X7_init_41, List.forall_mem_cons.mpr ⟨r_X7_init_44, List.forall_mem_cons.mpr ⟨r_X7_init_45, List.forall_mem_cons.mpr ⟨r_X7_init_47, List.forall_mem_cons.mpr ⟨r_X7_init_49, List.forall_mem_cons.mpr ⟨r_X7_init_52, List.forall_mem_cons.mpr ⟨r_X7_init_53, List.forall_mem_cons.mpr ⟨r_X7_init_56, List.forall_mem_cons.mpr ⟨r_X7_init_58, List.forall_mem_cons.mpr ⟨r_X7_init_61, List.forall_mem_cons.mpr ⟨r_X7_init_62, List.forall_mem_cons.mpr ⟨r_X7_init_64, List.forall_mem_cons.mpr ⟨r_X7_init_66, List.forall_mem_cons.mpr ⟨r_X7_init_69, List.forall_mem_cons.mpr ⟨r_X7_init_70, List.forall_mem_cons.mpr ⟨r_X7_init_72, List.forall_mem_cons.mpr ⟨r_X7_init_74, List.forall_mem_cons.mpr ⟨r_X7_init_77, List.forall_mem_cons.mpr ⟨r_X7_init_78, fun _ h => absurd h List.not_mem_nil⟩⟩⟩⟩⟩⟩⟩⟩⟩⟩⟩⟩⟩⟩⟩⟩⟩⟩⟩⟩⟩⟩⟩⟩⟩⟩⟩⟩⟩⟩⟩⟩⟩⟩⟩⟩⟩⟩⟩⟩
set_option maxRecDepth 100000 in
theorem tq_X7_init_0 : tf_X7_init_0 = tl_X7_init_0.map (fun q => (q.1, stepOf NPf md_X7_init q.2)) := rfl
theorem r_X7_init_79 : IOK WB AD SR FW TB md_X7_init 79 (.iload_n 1, 0, 0, 0, []) := io_plain (by decide +kernel) rfl
theorem r_X7_init_80 : IOK WB AD SR FW TB md_X7_init 80 (.bipush 8, 0, 0, 0, []) := io_plain (by decide +kernel) rfl
theorem r_X7_init_82 : IOK WB AD SR FW TB md_X7_init 82 (.if_icmp .ge 20, 0, 0, 0, []) := io_plain (by decide +kernel) rfl
theorem r_X7_init_85 : IOK WB AD SR FW TB md_X7_init 85 (.aload_n 0, 0, 0, 0, []) := io_plain (by decide +kernel) rfl
theorem r_X7_init_86 : IOK WB AD SR FW TB md_X7_init 86 (.getfield 9, 8, 2, 2, []) := io_get (by decide +kernel) fo_RX7_9
theorem r_X7_init_89 : IOK WB AD SR FW TB md_X7_init 89 (.iload_n 1, 0, 0, 0, []) := io_plain (by decide +kernel) rfl
theorem r_X7_init_90 : IOK WB AD SR FW TB md_X7_init 90 (.iconst 1, 0, 0, 0, []) := io_plain (by decide +kernel) rfl
theorem r_X7_init_91 : IOK WB AD SR FW TB md_X7_init 91 (.iadd, 0, 0, 0, []) := io_plain (by decide +kernel) rfl
theorem r_X7_init_92 : IOK WB AD SR FW TB md_X7_init 92 (.iconst 1, 0, 0, 0, []) := io_plain (by decide +kernel) rfl
theorem r_X7_init_93 : IOK WB AD SR FW TB md_X7_init 93 (.iload_n 1, 0, 0, 0, []) := io_plain (by decide +kernel) rfl
theorem r_X7_init_94 : IOK WB AD SR FW TB md_X7_init 94 (.ishl, 0, 0, 0, []) := io_plain (by decide +kernel) rfl
theorem r_X7_init_95 : IOK WB AD SR FW TB md_X7_init 95 (.iastore, 0, 0, 0, []) := io_plain (by decide +kernel) rfl
theorem r_X7_init_96 : IOK WB AD SR FW TB md_X7_init 96 (.iinc 1 1, 0, 0, 0, []) := io_plain (by decide +kernel) rfl
theorem r_X7_init_99 : IOK WB AD SR FW TB md_X7_init 99 (.goto (-20), 0, 0, 0, []) := io_plain (by decide +kernel) rfl
theorem r_X7_init_102 : IOK WB AD SR FW TB md_X7_init 102 (.aload_n 0, 0, 0, 0, []) := io_plain (by decide +kernel) rfl
theorem r_X7_init_103 : IOK WB AD SR FW TB md_X7_init 103 (.getfield 33, 8, 9, 2, []) := io_get (by decide +kernel) fo_RX7_33
theorem r_X7_init_106 : IOK WB AD SR FW TB md_X7_init 106 (.iconst 1, 0, 0, 0, []) := io_plain (by decide +kernel) rfl
theorem r_X7_init_107 : IOK WB AD SR FW TB md_X7_init 107 (.invokestatic 39, 2, 0, 0, []) := io_stat (by decide +kernel) tb_J7_fill_53178 (wb_1 49 rfl rfl) st_J7_fill_53178 pr_J7_fill_53178
theorem r_X7_init_110 : IOK WB AD SR FW TB md_X7_init 110 (.return_, 0, 0, 0, []) := io_void (by decide +kernel) rfl
set_option maxRecDepth 100000 in
theorem ok_X7_init_1 : ∀ q ∈ tl_X7_init_1, IOK WB AD SR FW TB md_X7_init q.1 q.2 := List.forall_mem_cons.mpr ⟨r_X7_init_79, List.forall_mem_cons.mpr ⟨r_X7_init_80, List.forall_mem_cons.mpr ⟨r_X7_init_82, List.forall_mem_cons.mpr ⟨r_X7_init_85, List.forall_mem_cons.mpr ⟨r_X7_init_86, List.forall_mem_cons.mpr ⟨r_X7_init_89, List.forall_mem_cons.mpr ⟨r_X7_init_90, List.forall_mem_cons.mpr ⟨r_X7_init_91, List.forall_mem_cons.mpr ⟨r_X7_init_92, List.forall_mem_cons.mpr ⟨r_X7_init_93, List.forall_mem_cons.mpr ⟨r_X7_init_94, List.forall_mem_cons.mpr ⟨r_X7_init_95, List.forall_mem_cons.mpr ⟨r_X7_init_96, List.forall_mem_cons.mpr ⟨r_X7_init_99, List.forall_mem_cons.mpr ⟨r_X7_init_102, List.forall_mem_cons.mpr ⟨r_X7_init_103, List.forall_mem_cons.mpr ⟨r_X7_init_106, List.forall_mem_cons.mpr ⟨r_X7_init_107, List.forall_mem_cons.mpr ⟨r_X7_init_110, fun _ h => absurd h List.not_mem_nil⟩⟩⟩⟩⟩⟩⟩⟩⟩⟩⟩⟩⟩⟩⟩⟩⟩⟩⟩
set_option maxRecDepth 100000 in
theorem tq_X7_init_1 : tf_X7_init_1 = tl_X7_init_1.map (fun q => (q.1, stepOf NPf md_X7_init q.2)) := rfl
