/** Promises 1 to 10: a new object, and the land. */
final class LandTests {
    private LandTests() {
    }

    // House 1, a merchant without gold, owes house 2 and is down on day 1.
    static final String ONE_DOWN = """
            house(0, 0) 1
            house(0, 0) 2
            promise(1, 2, 5, 1) 0
            run(2) 1
            """;

    static void all() {
        PromiseTest.promise(1, "a new object", """
                count(0) 0
                count(1) 1
                count(2) 1
                count(3) 0
                count(4) 0
                count(5) 0
                count(6) 0
                count(7) 0
                count(8) 0
                count(9) 0
                count(10) 0
                count(11) 0
                count(12) 0
                count(13) 0
                count(14) -1
                count(15) 5
                count(16) 0
                count(17) 999
                look(0, 0) 2
                look(0, 1) 0
                look(0, 2) 0
                look(0, 3) 0
                look(0, 4) 1
                look(0, 5) 0
                look(0, 6) -1
                look(0, 7) 0
                look(0, 8) 0
                look(0, 9) 0
                number(0) 0
                number(299) 0
                of(0, 0) -3
                copyAt(0, 0) -3
                found(0, 0) -3
                sheet(0, 0) -3
                why(0, -1) -1
                week(0, 0) 100
                week(1, 51) 5
                flow(0) 0
                tear() 0
                wipe() 0
                status(-2) 0
                status(-8) 0
                """);
        PromiseTest.promise(2, "town", """
                town() 1
                town() 2
                5 x town() ?
                count(1) 8
                town() -8
                count(1) 8
                status(-8) 1
                far(7, 7) 0
                """);
        PromiseTest.promise(3, "road", """
                town() 1
                town() 2
                road(0, 1, 1) 1
                road(1, 0, 30) 2
                road(0, 1, 0) -7
                road(0, 1, 31) -7
                road(0, 1, -5) -7
                road(1, 1, 3) -7
                road(0, 3, 3) -3
                road(-1, 0, 3) -3
                road(3, 3, 0) -3            # BEYOND is ahead of NO
                14 x road(1, 2, 5) ?
                count(3) 16
                road(1, 2, 5) -8
                road(1, 1, 5) -7            # NO is ahead of FULL
                count(3) 16
                status(-3) 3
                status(-7) 5
                status(-8) 1
                """);
        PromiseTest.promise(4, "far", """
                town() 1
                town() 2
                town() 3
                far(0, 0) 0
                far(0, 1) -1
                road(0, 1, 9) 1
                road(1, 2, 4) 2
                far(2, 0) 13
                far(0, 2) 13
                far(0, 3) -1
                road(0, 2, 3) 3
                far(0, 2) 3
                far(0, 1) 7
                far(1, 0) 7
                road(0, 1, 20) 4
                far(0, 1) 7
                far(4, 0) -3
                far(0, -1) -3
                far(0, 8) -3
                """);
        PromiseTest.promise(4, "far, when a road joins two lands", """
                7 x town() ?
                road(0, 1, 1) 1
                road(1, 2, 1) 2
                road(2, 3, 1) 3
                road(4, 5, 2) 4
                road(5, 6, 2) 5
                road(6, 7, 2) 6
                far(0, 7) -1
                road(3, 4, 5) 7
                far(0, 7) 14
                far(7, 0) 14
                road(7, 0, 2) 8
                far(3, 6) 7
                far(4, 0) 8
                """);
        PromiseTest.promise(5, "house", """
                town() 1
                house(0, 0) 1
                house(1, 1) 2
                house(2, 0) -5
                house(-1, 0) -5
                house(0, 2) -3
                house(7, 2) -3               # BEYOND is ahead of KIND
                house(0, -1) -3
                look(1, 0) 0
                look(1, 1) 0
                look(1, 2) 0
                look(2, 0) 1
                look(2, 1) 1
                look(2, 4) 1
                look(2, 5) 0
                look(2, 6) 0
                bold(2, 0) 9000
                13 x house(0, 0) ?
                count(2) 16
                house(0, 0) -8
                house(2, 0) -5               # KIND is ahead of FULL
                house(0, 2) -3
                count(2) 16
                """);
        PromiseTest.promise(6, "gold", ONE_DOWN + """
                gold(2, 0) 0
                gold(2, 10000) 10000
                gold(2, 10000) 20000
                gold(2, 10001) -7
                gold(2, -1) -7
                gold(3, 5) -3
                gold(-1, 5) -3
                gold(3, -1) -3               # BEYOND is ahead of NO
                gold(1, 5) -7                # it is down
                look(1, 2) 0
                gold(0, 7) 7
                look(2, 2) 20000
                """);
        PromiseTest.promise(7, "mind", """
                house(0, 0) 1
                house(1, 0) 2
                house(1, 0) 3
                mind(1, 0, 2) 0
                mind(1, 9999, 0) 0
                mind(1, 17, 3) 9999
                look(1, 5) 17
                look(1, 6) 3
                mind(1, 10000, 0) -7
                mind(1, -1, 0) -7
                mind(1, 5, 1) -5
                mind(2, 5, 3) -5
                mind(2, 5, 1) -5
                mind(2, 5, 0) 0
                mind(0, 5, 0) -5
                mind(0, 5, 2) -5
                mind(4, 5, 0) -3
                mind(1, 5, 4) -3
                mind(1, 5, -1) -3
                mind(0, -5, 4) -3            # BEYOND is ahead of KIND
                mind(2, -5, 2) -5            # KIND is ahead of NO
                look(1, 5) 17
                look(1, 6) 3
                look(2, 5) 5
                """);
        PromiseTest.promise(8, "bold", """
                house(0, 0) 1
                bold(1, 0) 9000
                bold(1, 9999) 0
                bold(1, 1234) 9999
                bold(1, 5) 1234
                bold(1, 10000) -7
                bold(1, -1) -7
                bold(0, 5) -5
                bold(0, -5) -5               # KIND is ahead of NO
                bold(2, 5) -3
                bold(-1, -5) -3              # BEYOND is ahead of NO
                bold(1, 0) 5
                """);
        PromiseTest.promise(9, "look", """
                town() 1
                house(0, 1) 1
                house(1, 0) 2
                gold(0, 500) 500
                give(0, 1, 57) 493
                look(1, 0) 0
                look(1, 1) 1
                look(1, 2) 7
                look(1, 3) 5
                look(1, 4) 1
                look(1, 7) 57
                look(0, 3) 0
                look(0, 7) 493
                mind(1, 3, 2) 0
                look(1, 5) 3
                look(1, 6) 2
                look(2, 6) 0
                look(0, 6) -1
                promise(1, 2, 30, 1) 0
                bill(2, 1, 40, 9) 1
                deposit(1, 2, 10) 2
                look(1, 8) 2
                look(1, 9) 1
                look(2, 8) 1
                look(2, 9) 2
                look(2, 3) 1
                look(2, 7) 10
                look(3, 0) -3
                look(-1, 99) -3              # BEYOND is ahead of NO
                look(1, 10) -7
                look(1, -1) -7
                mind(1, 0, 2) 3
                give(1, 2, 47) 0
                run(2) 1
                look(1, 4) 0
                look(1, 7) 0
                look(1, 8) 2                 # dead papers and claims are held as before
                look(1, 9) 1
                """);
        PromiseTest.promise(10, "down", ONE_DOWN + """
                down(1, 0) 1
                down(1, 1) 0
                down(1, 2) 2
                down(1, 3) 0
                down(1, 4) -7
                down(1, -1) -7
                down(2, 0) -2
                down(2, 9) -2                # MISSING is ahead of NO
                down(0, 0) -2
                down(3, 0) -3
                down(-1, 9) -3
                """);
        PromiseTest.promise(10, "down, when asked", """
                house(0, 0) 1
                house(1, 0) 2
                house(0, 0) 3
                gold(1, 50) 50
                deposit(1, 2, 50) 0
                give(2, 3, 20) 30
                run(3) 0
                ask(0) 0
                down(2, 0) 3
                down(2, 1) 0
                down(2, 2) 1
                down(2, 3) 2
                """);
    }
}
