/** Section 1 of the document: days, towns, roads, houses; and promises 1 to 10. */
final class EdgeLand {
    private EdgeLand() {
    }

    static void all() {
        days();
        towns();
        houses();
        promises();
    }

    private static void days() {
        EdgeTest.edge("DAYS are numbered; the one that is open is 0 at first, 699 the last one that can be closed.", """
                count(0) 0
                9 x run(70) 0
                run(68) 0
                count(0) 698
                run(3) -8
                run(1) 0
                count(0) 699
                run(2) -8
                count(0) 699
                run(1) 0
                count(0) 700
                run(1) -8
                run(70) -8
                count(0) 700
                status(-8) 4
                """);
        EdgeTest.edge("DAY d is in WEEK d / 7 (all quotients here are cut).", """
                tape out week
                text(0, 1000) 0
                says(0, -1) 0
                run(6) 0
                says(0, -1) 0
                run(1) 0
                says(0, -1) 1
                run(6) 0
                says(0, -1) 1
                run(1) 0
                says(0, -1) 2
                9 x run(70) 0
                run(48) 0
                says(0, -1) 98               # day 692
                run(1) 0
                says(0, -1) 99
                run(6) 0
                says(0, -1) 99               # day 699
                run(1) 0
                says(0, -1) 100              # the open day 700, that is never closed
                """);
    }

    private static void towns() {
        EdgeTest.edge("TOWNS 0 .. 7 as they come (TOWN 0 is there)", """
                count(1) 1
                far(0, 0) 0
                far(0, 1) -3
                house(0, 1) -3
                house(0, 0) 1
                6 x town() 1..
                far(6, 6) 0
                far(7, 7) -3
                town() 7
                far(7, 7) 0
                far(7, 8) -3
                far(8, 7) -3
                far(-1, 7) -3
                far(7, -1) -3
                house(1, 7) 2
                house(1, 8) -3
                house(1, -1) -3
                2 x town() -8
                count(1) 8
                far(8, 8) -3
                status(-8) 2
                """);
        EdgeTest.edge("ROADS, 16 at most, between two TOWNS take 1 .. 30 DAYS", """
                town() 1
                town() 2
                road(0, 1, 0) -7
                road(0, 1, -1) -7
                road(0, 1, -2147483648) -7
                road(0, 1, 31) -7
                road(0, 1, 2147483647) -7
                far(0, 1) -1
                count(3) 0
                road(0, 1, 30) 1
                far(0, 1) 30
                road(0, 1, 29) 2
                far(0, 1) 29
                road(0, 1, 2) 3
                12 x road(0, 1, 2) 4..
                count(3) 15
                road(1, 2, 30) 16
                road(1, 2, 1) -8
                road(0, 1, 1) -8
                far(0, 1) 2                  # the one that is refused is no road
                far(0, 2) 32
                count(3) 16
                road(2, 2, 1) -7             # NO is ahead of FULL
                road(1, 2, 31) -7
                road(3, 2, 31) -3            # BEYOND is ahead of NO
                """);
        EdgeTest.edge("FAR of two TOWNS: the fewest DAYS by ROADS (0 of one with itself; NONE: none).", """
                7 x town() 1..
                far(0, 7) -1
                far(7, 0) -1
                far(7, 7) 0
                road(0, 1, 30) 1
                far(0, 0) 0
                far(1, 1) 0
                far(0, 1) 30
                far(1, 0) 30
                far(0, 2) -1
                far(1, 2) -1
                road(1, 2, 30) 2
                road(2, 3, 30) 3
                road(3, 4, 30) 4
                road(4, 5, 30) 5
                road(5, 6, 30) 6
                far(0, 7) -1
                road(7, 6, 30) 7
                far(0, 7) 210                # seven roads, the most there can be in a row
                far(7, 0) 210
                far(0, 6) 180
                road(0, 7, 30) 8
                far(0, 7) 30
                far(0, 4) 120                # alike by both ways
                far(0, 5) 90
                far(1, 7) 60
                road(2, 5, 1) 9
                far(0, 5) 61
                far(0, 4) 91
                far(0, 6) 60                 # still by 7
                far(3, 6) 61
                far(0, 0) 0
                """);
        EdgeTest.edge("FAR of two TOWNS: the fewest DAYS by ROADS", """
                5 x town() 1..
                road(0, 1, 9) 1
                road(0, 1, 8) 2              # of two roads the shorter one
                far(0, 1) 8
                road(0, 1, 9) 3
                far(0, 1) 8
                road(0, 2, 4) 4
                road(2, 1, 4) 5
                far(0, 1) 8
                road(2, 1, 3) 6
                far(0, 1) 7
                road(3, 4, 1) 7
                road(4, 5, 1) 8
                far(1, 5) -1
                road(5, 1, 2) 9              # two lands become one
                far(0, 3) 11
                far(3, 0) 11
                far(2, 4) 6
                """);
    }

    private static void houses() {
        EdgeTest.edge("HOUSES 0 .. 15 as they come", """
                3 x town() 1..
                house(0, 3) 1
                house(1, 2) 2
                house(0, 1) 3
                gold(1, 11) 11
                gold(2, 12) 12
                gold(3, 13) 13
                mind(1, 21, 2) 0
                mind(2, 22, 0) 0
                mind(3, 23, 2) 0
                bold(1, 1031) 9000
                bold(2, 2032) 9000
                bold(3, 3033) 9000
                promise(3, 1, 14, 1) 0
                run(2) 1
                4 x house(0, 1) 4..          # none of those that are there becomes another one by it
                4 x house(1, 2) 8..
                2 x house(0, 3) 12..
                house(1, 0) 14
                look(1, 2) 11
                look(2, 2) 12
                look(3, 2) 13
                look(1, 1) 3
                look(2, 1) 2
                look(3, 1) 1
                look(1, 5) 21
                look(2, 5) 22
                look(3, 5) 23
                look(1, 6) 2
                look(2, 6) 0
                look(3, 6) 2
                look(1, 0) 0
                look(2, 0) 1
                look(3, 4) 0
                down(3, 0) 1
                down(3, 2) 1
                bold(1, 9000) 1031
                bold(2, 9000) 2032
                bold(3, 9000) 3033
                bold(14, 9000) 9000
                look(14, 5) 0
                look(14, 6) 0
                """);
        EdgeTest.edge("HOUSES 0 .. 15 as they come: KINDS 0 MERCHANT, 1 BANK, 2 THE BANK"
                + " (HOUSE 0, in TOWN 0, there at first; no other one).", """
                count(2) 1
                look(0, 0) 2
                look(0, 1) 0
                look(1, 0) -3
                house(2, 0) -5
                house(3, 0) -5
                house(-1, 0) -5
                house(2147483647, 0) -5
                count(2) 1
                house(0, 0) 1
                look(1, 0) 0
                house(1, 0) 2
                look(2, 0) 1
                12 x house(0, 0) 3..
                count(2) 15
                look(15, 0) -3
                house(1, 0) 15
                look(15, 0) 1
                look(16, 0) -3
                house(0, 0) -8
                house(1, 0) -8
                count(2) 16
                look(16, 0) -3
                look(-1, 0) -3
                gold(15, 3) 3
                gold(16, 3) -3
                """);
        EdgeTest.edge("it is UP or DOWN (THE BANK is always UP)", """
                house(0, 0) 1
                look(0, 4) 1
                down(0, 0) -2
                assets(0) -2
                flow(100) 0
                tell(1, 0, 20) -1
                run(7) 0
                count(14) 6                  # stopped, and without gold
                look(0, 2) 0
                look(0, 4) 1
                down(0, 0) -2
                assets(0) -2
                gold(0, 5) 5
                give(0, 1, 5) 0
                """);
        EdgeTest.edge("MIN (0 .. 9999; 0 at first), BANKER (a HOUSE of a greater KIND; THE BANK at first),"
                + " BOLD (0 .. 9; 9 at first), CARE (0 .. 999; 0 at first).", """
                house(0, 0) 1
                house(1, 0) 2
                house(0, 0) 3
                look(1, 5) 0
                look(1, 6) 0
                look(2, 5) 0
                look(2, 6) 0
                mind(1, -1, 0) -7
                mind(1, -2147483648, 0) -7
                mind(1, 10000, 0) -7
                mind(1, 2147483647, 0) -7
                mind(1, 1, 0) 0
                mind(1, 9998, 2) 1
                mind(1, 9999, 2) 9998
                mind(1, 0, 2) 9999
                look(1, 5) 0
                look(1, 6) 2
                mind(1, 5, 3) -5             # of the same kind
                mind(1, 5, 1) -5             # itself
                mind(2, 5, 1) -5             # of a smaller one
                mind(2, 5, 2) -5
                mind(2, 5, 0) 0
                look(1, 5) 0
                look(1, 6) 2
                bold(1, -1) -7
                bold(1, 10000) -7
                bold(1, 1) 9000
                bold(1, 999) 1               # BOLD 0, CARE 999
                bold(1, 1000) 999            # BOLD 1, CARE 0
                bold(1, 8999) 1000
                bold(1, 9000) 8999
                bold(1, 9999) 9000
                bold(1, 10999) -7
                bold(1, -1000) -7
                bold(1, 0) 9999
                bold(1, 0) 0
                bold(2, 0) 9000
                """);
        EdgeTest.edge("COIN of a HOUSE: GOLD and 10 for each COPY it holds.", """
                house(0, 0) 1
                house(0, 0) 2
                look(1, 7) 0
                gold(1, 9) 9
                look(1, 7) 9
                gold(0, 100) 100
                give(0, 1, 10) 100
                look(1, 7) 19
                forge(1, 0) 1                # a forged one counts
                look(1, 7) 29
                look(1, 3) 2
                look(0, 7) 100
                present(1, 1) 1              # the forged one is gone, the other is gold
                look(1, 7) 19
                look(1, 3) 0
                look(0, 7) 90
                look(0, 3) 0
                """);
    }

    private static void promises() {
        EdgeTest.edge("`NoteHouse()`: TOWN 0, THE BANK with GOLD 0; no NOTES, PAPERS, TEXTS; THE TAPE is empty.", """
                count(1) 1
                count(2) 1
                look(0, 2) 0
                give(0, 0, 1) -7
                gold(0, 0) 0
                number(0) 0
                number(299) 0
                count(4) 0
                of(0, 0) -3
                of(59, 0) -3
                count(6) 0
                why(0, -1) -1
                count(7) 0
                wipe() 0
                text(0, 1) -10
                """);
        EdgeTest.edge("v GOLD (0 .. 10000) comes to a HOUSE from without: how much it has."
                + " BEYOND, NO: v, it is DOWN.", LandTests.ONE_DOWN + """
                gold(2, 0) 0
                gold(2, 1) 1
                gold(2, 9999) 10000
                gold(2, 10000) 20000
                gold(2, 10001) -7
                gold(2, -1) -7
                gold(2, 2147483647) -7
                gold(2, -2147483648) -7
                gold(2, 0) 20000
                gold(0, 10000) 10000
                gold(0, 10001) -7
                gold(1, 0) -7
                gold(1, 1) -7
                gold(3, 0) -3
                gold(3, 10001) -3
                gold(-1, -1) -3
                status(-7) 7
                status(-3) 3
                """);
        EdgeTest.edge("BEYOND (HOUSE, BANKER), KIND: THE BANK, or a BANKER of no greater KIND; NO.", """
                house(0, 0) 1
                house(1, 0) 2
                mind(3, 10000, 0) -3
                mind(1, 10000, 3) -3
                mind(0, 10000, 3) -3
                mind(-1, 0, 2) -3
                mind(1, 0, -1) -3
                mind(0, 10000, 0) -5
                mind(0, 0, 2) -5
                mind(1, 10000, 1) -5
                mind(2, -1, 2) -5
                mind(1, 10000, 2) -7
                mind(1, -1, 0) -7
                mind(1, 7, 2) 0
                look(1, 5) 7
                look(0, 5) 0
                look(0, 6) -1
                """);
        EdgeTest.edge("BOLD and CARE of a HOUSE, told as 1000 * BOLD + CARE: those before, likewise."
                + " BEYOND, KIND: THE BANK; NO.", """
                house(0, 0) 1
                bold(2, 10000) -3
                bold(-1, 0) -3
                bold(0, 10000) -5
                bold(0, 0) -5
                bold(1, 10000) -7
                bold(1, -1) -7
                bold(1, 3007) 9000
                bold(1, 9000) 3007
                """);
        EdgeTest.edge("KIND (what = 0), TOWN (1), GOLD (2), how many NOTES it holds (3; THE BANK: 0), whether it is"
                + " UP (4), MIN (5), BANKER (6; NONE of THE BANK), COIN (7; THE BANK: its GOLD), how many PAPERS it"
                + " holds (8), is DEBTOR of (9). BEYOND, NO.", """
                house(0, 0) 1
                gold(0, 77) 77
                give(0, 1, 20) 77
                give(1, 0, 10) 0
                look(0, 3) 0                 # number 0 is in
                look(0, 7) 77
                look(0, 6) -1
                look(0, 5) 0
                look(0, 8) 0
                look(0, 9) 0
                look(0, 10) -7
                look(0, -1) -7
                look(1, 9) 0
                look(1, 10) -7
                look(1, 2147483647) -7
                look(1, -2147483648) -7
                look(2, 10) -3
                look(-1, 0) -3
                look(2, 0) -3
                bill(1, 0, 5, 5) -5
                house(0, 0) 2
                bill(1, 2, 20, 5) 0
                look(2, 8) 1
                look(1, 9) 1
                sell(0) 20
                look(2, 8) 0
                look(0, 8) 1
                run(6) 1
                of(0, 5) 1
                look(0, 8) 1                 # protested ones, too
                look(1, 9) 1
                """);
        EdgeTest.edge("how many PAPERS it holds (8), is DEBTOR of (9).", """
                house(0, 0) 1
                house(0, 0) 2
                gold(1, 5) 5
                promise(1, 2, 5, 1) 0
                promise(1, 2, 9, 9) 1
                look(2, 8) 2
                look(1, 9) 2
                run(2) 0
                look(2, 8) 1                 # one is paid
                look(1, 9) 1
                look(1, 8) 0
                look(2, 9) 0
                """);
        EdgeTest.edge("Of a HOUSE that is DOWN: the DAY (what = 0), the PAPER (1), to whom (2), how (3)."
                + " BEYOND, MISSING: it is UP; NO.", LandTests.ONE_DOWN + """
                down(1, -1) -7
                down(1, 0) 1
                down(1, 3) 0
                down(1, 4) -7
                down(2, 0) -2
                down(2, 4) -2
                down(0, 4) -2
                down(3, 4) -3
                down(3, 0) -3
                down(-1, 0) -3
                status(-2) 3
                status(-3) 3
                status(-7) 2
                """);
    }
}
