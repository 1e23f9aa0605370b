/** Section 6 of the document: texts, their tokens, their first fault; promises 37 and 39. */
final class EdgeTexts {
    private static final int NO_FAULT = -1;

    private EdgeTexts() {
    }

    static void all() {
        places();
        tokens();
        numbers();
        words();
        texts();
        ors();
        nots();
        sums();
        ones();
        faults();
        open();
        openTill();
        promises();
    }

    /** Feeds THE TAPE byte by byte as it is told, blanks at its end and odd signs, too. */
    static String fed(String tape) {
        StringBuilder lines = new StringBuilder();
        for (int i = 0; i < tape.length(); i += 3) {
            int n = Math.min(3, tape.length() - i);
            int bytes = 0;
            for (int k = i; k < i + n; k++) {
                bytes = bytes << 8 | tape.charAt(k);
            }
            lines.append("feed(").append(bytes).append(", ").append(n).append(") ").append(i + n).append('\n');
        }
        return lines.toString();
    }

    private static void reads(String sentence, String tape, int fault) {
        String answer = fault == NO_FAULT ? "0\ncount(7) 0\ncount(6) 1" : -10 - fault + "\ncount(7) " + tape.length()
                + "\ncount(6) 0\nwipe() " + tape.length();
        EdgeTest.edge(sentence, fed(tape) + "text(0, 9) " + answer);
    }

    // What the text on THE TAPE comes to; gold is 300, OUT 20, the day 9, the RATE 5.
    static void means(String sentence, String e, int value) {
        EdgeTest.edge(sentence, "house(0, 0) 1\ngold(0, 300) 300\ngive(0, 1, 20) 300\nrun(9) 0\n" + fed("out " + e)
                + "text(9, 10) 0\nsays(0, -1) " + value);
    }

    private static void places() {
        EdgeTest.edge("TEXTS 0 .. 11 as they come, read from THE TAPE (bytes, 120 at most), in force from a DAY on,"
                + " ahead of another one (0 .. 1000).", """
                tape hide 1
                text(-1, 5) -7
                text(-2147483648, 5) -7
                text(0, 1001) -7
                text(0, 2147483647) -7
                text(1000, 1000) -7
                text(1000, 1001) -7
                text(5, 5) -7
                text(5, 4) -7
                text(0, 0) -7
                text(0, -1) -7
                count(7) 6                   # THE TAPE stays
                status(-7) 10
                text(999, 1000) 0
                tape hide 2
                text(0, 1000) 1
                tape hide 3
                text(3, 4) 2
                tape hide 4
                text(5, 7) 3
                7 x text(0, 1) -10
                tape hide 5
                text(8, 9) 4
                says(4, -1) 2
                run(2) 0
                says(4, -1) 2
                run(1) 0
                says(4, -1) 3                # day 3
                run(1) 0
                says(4, -1) 2
                run(1) 0
                says(4, -1) 4                # day 5
                run(1) 0
                says(4, -1) 4
                run(1) 0
                says(4, -1) 2                # day 7
                """);
        StringBuilder eleven = new StringBuilder();
        for (int i = 0; i < 11; i++) {
            eleven.append("tape show ").append(i).append("\ntext(0, 9) ").append(i).append('\n');
        }
        EdgeTest.edge("TEXTS 0 .. 11 as they come", eleven + """
                tape show
                text(0, 9) -14               # there is room, and a fault
                tape show 11
                text(0, 9) 11
                count(6) 12
                says(5, -1) 11
                why(5, -1) 11
                tape show 12
                text(0, 9) -8
                count(7) 7
                text(9, 9) -7                # NO is ahead of FULL
                tape show
                text(0, 9) -8                # FULL is ahead of a fault
                count(6) 12
                says(5, -1) 11
                status(-8) 2
                """);
        EdgeTest.edge("THE TAPE (bytes, 120 at most)", "feed(111, 1) 1\nfeed(30068, 2) 3\n" + """
                29 x feed(538976288, 4) ?
                count(7) 119
                feed(538976288, 4) -8
                feed(12593, 2) -8            # two would be one too many
                count(7) 119
                feed(55, 1) 120
                feed(55, 1) -8
                feed(0, 0) 120
                text(0, 9) 0                 # out, 116 blanks, 7
                says(0, -1) 7
                count(7) 0
                """);
        String full = "THE TAPE (bytes, 120 at most)";
        reads(full, "out " + "1+".repeat(57) + "go", 118);       // a WORD that ends with THE TAPE
        reads(full, "out " + "1+".repeat(56) + "gold", NO_FAULT);
        reads(full, "out " + "1+".repeat(55) + "golds ", 114);
        reads(full, "out " + "1+".repeat(58), 120);
        reads(full, "out 1" + " ".repeat(113) + "if", 120);
        reads(full, "out 1" + " ".repeat(114) + "i", 119);
    }

    private static void tokens() {
        String sentence = "TOKENS, each as long as can be: WORDS (a .. z), NUMBERS (digits, 5 at most), SIGNS"
                + " ( ) + - * / % = < >; blanks (32) may stand between.";
        reads(sentence, "out1", NO_FAULT);
        reads(sentence, "out(1)", NO_FAULT);
        reads(sentence, "   out   (  1  )   ", NO_FAULT);
        reads(sentence, "out 1if gold<7and not(2)or day", NO_FAULT);
        reads(sentence, "out1if1", NO_FAULT);
        reads(sentence, "outgold", 0);
        reads(sentence, "ou t", 0);
        reads(sentence, "out go ld", 4);
        reads(sentence, "out goldday", 4);
        reads(sentence, "out 1 2", 6);
        reads(sentence, "out goldz", 4);
        reads(sentence, "out zgold", 4);
        reads(sentence, "out golda", 4);
        reads(sentence, "out agold", 4);
        reads(sentence, "out gold{", 8);
        reads(sentence, "out gold`", 8);
        reads(sentence, "out not1", NO_FAULT);
        reads(sentence, "out notgold", 4);
        reads(sentence, "out 1+2-3*4/5%6=7", NO_FAULT);
        reads(sentence, "out 1<2", NO_FAULT);
        reads(sentence, "out 1>2", NO_FAULT);
        reads(sentence, "out 1<=2", 6);
        reads(sentence, "out 1==2", 6);
        reads(sentence, "out 1<>2", 6);
        means(sentence, "12", 12);
        for (int b : new int[] {0, 9, 10, 31, 33, 34, 36, 38, 39, 44, 46, 58, 59, 63, 64, 65, 90, 91, 95, 96, 123, 127,
            128, 255, 'o' + 128}) {
            reads("also of a byte that begins none", "out " + (char) b + "1", 4);
            reads("also of a byte that begins none", "out 1" + (char) b, 5);
        }
    }

    private static void numbers() {
        String sentence = "a NUMBER that is too long";
        means("NUMBERS (digits, 5 at most)", "99999", 99999);
        means("NUMBERS (digits, 5 at most)", "00007", 7);
        means("NUMBERS (digits, 5 at most)", "0", 0);
        means("NUMBERS (digits, 5 at most)", "10289+47563", 57852);
        reads(sentence, "out 99999", NO_FAULT);
        reads(sentence, "out 100000", 4);
        reads(sentence, "out 000000", 4);
        reads(sentence, "out 1+123456", 6);
        reads(sentence, "out 123456x", 4);
        reads(sentence, "out " + "9".repeat(116), 4);
        reads(sentence, "out 12345 6", 10);
        reads(sentence, "123456", 0);
        reads(sentence, "out 1 123456", 6);
    }

    private static void words() {
        String keys = "KEYS: out rate buy lend hide show lift.";
        String names = "NAMES: gold notes reserve week day price sum days names town.";
        String others = "Other WORDS that stand: if or and not.";
        for (String key : keys.substring(6, keys.length() - 1).split(" ")) {
            reads(keys, key + " 1", NO_FAULT);
            reads(keys, "out " + key, 4);
            reads(keys, key + "s 1", 0);
            reads(keys, key.substring(1) + " 1", 0);
            reads(keys, key.substring(0, key.length() - 1) + " 1", 0);
        }
        for (String name : names.substring(7, names.length() - 1).split(" ")) {
            reads(names, "out " + name, NO_FAULT);
            reads(names, "out 1 if 0-" + name, NO_FAULT);
            reads(names, name + " 1", 0);
            reads(names, "out 1 " + name, 6);
            reads(names, "out " + name + "a", 4);
        }
        for (String other : "if or and not".split(" ")) {
            reads(others, other + " 1", 0);
            reads(others, "out 1 " + other, other.equals("not") ? 6 : 6 + other.length());
            reads(others, "out 1 " + other + "e 1", 6);
            reads(others, "out " + other + " 1", other.equals("not") ? NO_FAULT : 4);
        }
        for (String word : "a o g nam gol note prices dayss o outif orand xif then else id on".split(" ")) {
            reads("a WORD that is none of these", "out 1 " + word, 6);
            reads("a WORD that is none of these", "out " + word, 4);
            reads("a WORD that is none of these", word + " 1", 0);
            reads("a WORD that is none of these", "out -" + word, 5);
            reads("a WORD that is none of these", "out (" + word, 5);
            reads("a WORD that is none of these", "out not " + word, 8);
            reads("a WORD that is none of these", "out 1*" + word + " 2", 6);
            reads("a WORD that is none of these", "out 1 if " + word, 9);
        }
    }

    private static void texts() {
        String sentence = "TEXT: KEY E, perhaps if E.";
        reads(sentence, "", 0);
        reads(sentence, " ", 1);
        reads(sentence, "     ", 5);
        reads(sentence, "out", 3);
        reads(sentence, "out   ", 6);
        reads(sentence, "out if 1", 4);
        reads(sentence, "out 1 if", 8);
        reads(sentence, "out 1 if  ", 10);
        reads(sentence, "out 1 if 2", NO_FAULT);
        reads(sentence, "out 1 if 2  ", NO_FAULT);
        reads(sentence, "out 1 if 2 if 3", 11);
        reads(sentence, "out 1 if if 3", 9);
        reads(sentence, "out 1 rate 2", 6);
        reads(sentence, "out out 2", 4);
        reads(sentence, "1", 0);
        reads(sentence, "(out 1)", 0);
        reads(sentence, "out (1 if 2)", 7);
        reads(sentence, "out 1 if (2 if 3)", 12);
        reads(sentence, "out 1)", 5);
        reads(sentence, "out 1 if 2)", 10);
        reads(sentence, "  x", 2);
    }

    private static void ors() {
        String or = "E: AND { or AND }.";
        reads(or, "out 1 or 2 or 3 or 4", NO_FAULT);
        reads(or, "out or 1", 4);
        reads(or, "out 1 or", 8);
        reads(or, "out 1 or or 2", 9);
        reads(or, "out 1 or if 2", 9);
        reads(or, "out 1 or 2 3", 11);
        String and = "AND: NOT { and NOT }.";
        reads(and, "out 1 and 2 and not 3 and 4", NO_FAULT);
        reads(and, "out and 1", 4);
        reads(and, "out 1 and", 9);
        reads(and, "out 1 and and 2", 10);
        reads(and, "out 1 and or 2", 10);
        reads(and, "out 1 or and 2", 9);
        means(and, "1 or 0 and 0", 1);
        means(and, "0 and 0 or 1", 1);
        means(and, "(1 or 0) and 0", 0);
        means(and, "0 or 1 and 1 or 0", 1);
    }

    private static void nots() {
        String sentence = "NOT: not NOT, or SUM, perhaps one of = < > and a SUM.";
        reads(sentence, "out not not 1", NO_FAULT);
        reads(sentence, "out not", 7);
        reads(sentence, "out not and 1", 8);
        reads(sentence, "out 1=not 1", 6);
        reads(sentence, "out 1+not 1", 6);
        reads(sentence, "out -not 1", 5);
        reads(sentence, "out 1*not 1", 6);
        reads(sentence, "out 1=(not 1)", NO_FAULT);
        reads(sentence, "out 1 not 1", 6);
        reads(sentence, "out 1=2=3", 7);
        reads(sentence, "out 1<2>3", 7);
        reads(sentence, "out 1<2=3", 7);
        reads(sentence, "out 1>2 and 2>1 or 3=3", NO_FAULT);
        reads(sentence, "out =1", 4);
        reads(sentence, "out 1=", 6);
        reads(sentence, "out 1= if 2", 7);
        reads(sentence, "out not =1", 8);
        means(sentence, "not 0=0", 0);
        means(sentence, "(not 0)=0", 0);
        means(sentence, "not 1=0", 1);
        means(sentence, "not not 5", 1);
        means(sentence, "not not 5=4", 0);
        means(sentence, "1+1=2", 1);
        means(sentence, "1<2+1", 1);
        means(sentence, "(1<2)=1", 1);
        means(sentence, "not 0 and 0", 0);
    }

    private static void sums() {
        String sum = "SUM: TERM { + or - TERM }.";
        reads(sum, "out 1+2-3+4", NO_FAULT);
        reads(sum, "out +1", 4);
        reads(sum, "out 1+", 6);
        reads(sum, "out 1++2", 6);
        reads(sum, "out 1+-2", NO_FAULT);
        reads(sum, "out 1--2", NO_FAULT);
        reads(sum, "out 1-+2", 6);
        means(sum, "10-3-2", 5);
        means(sum, "10-3+2", 9);
        means(sum, "1--2", 3);
        String term = "TERM: ONE { one of * / % ONE }.";
        reads(term, "out 1*2/3%4", NO_FAULT);
        reads(term, "out *1", 4);
        reads(term, "out /1", 4);
        reads(term, "out %1", 4);
        reads(term, "out 1*", 6);
        reads(term, "out 1**2", 6);
        reads(term, "out 1*/2", 6);
        reads(term, "out 1*-2", NO_FAULT);
        means(term, "2+3*4", 14);
        means(term, "7*3/2", 10);
        means(term, "100/7*7", 98);
        means(term, "17%5*2", 4);
        means(term, "2*17%5", 4);
        means(term, "20-12/4%2", 19);
    }

    private static void ones() {
        String sentence = "ONE: a NUMBER, a NAME, - ONE, ( E ).";
        reads(sentence, "out -1", NO_FAULT);
        reads(sentence, "out - - gold", NO_FAULT);
        reads(sentence, "out -(1 or 2)", NO_FAULT);
        reads(sentence, "out -", 5);
        reads(sentence, "out - if 1", 6);
        reads(sentence, "out ()", 5);
        reads(sentence, "out (", 5);
        reads(sentence, "out (1", 6);
        reads(sentence, "out (1 ", 7);
        reads(sentence, "out (1 2)", 7);
        reads(sentence, "out ((1)", 8);
        reads(sentence, "out (1))", 7);
        reads(sentence, "out )", 4);
        reads(sentence, "out (1)(2)", 7);
        reads(sentence, "out gold(2)", 8);
        reads(sentence, "out (not 1 = 2 and 3)*4", NO_FAULT);
        means(sentence, "-2*3", -6);
        means(sentence, "--5", 5);
        means(sentence, "-gold", -300);
        means(sentence, "-(2+3)", -5);
        means(sentence, "-2+3", 1);
        means(sentence, "(2+3)*4", 20);
        means(sentence, "2-(3-4)", 3);
    }

    private static void faults() {
        String sentence = "The FAULT is the place of the first byte of the first TOKEN that can't stand there (the end"
                + " of THE TAPE, if it ends too early)";
        reads(sentence, "out   gold   gold", 13);
        reads(sentence, "out 1 if gold reserve", 14);
        reads(sentence, "out A B", 4);
        reads(sentence, "out 1 A )", 6);
        reads(sentence, "out (1 A", 7);
        reads(sentence, "out 1+", 6);
        reads(sentence, "out 1+   ", 9);
        reads(sentence, "rate", 4);
        reads(sentence, "ratex", 0);
        reads(sentence, "A", 0);
        reads(sentence, "out " + " ".repeat(116), 120);
        reads(sentence, "out " + " ".repeat(115) + ")", 119);
        reads(sentence, "out " + "1+".repeat(58), 120);
        reads(sentence, "out " + "1+".repeat(57) + "-1", NO_FAULT);
        reads(sentence, "out 1" + "+1".repeat(57) + " ", NO_FAULT);
        EdgeTest.edge("-10 less the FAULT (THE TAPE stays).", fed("out 1 x") + """
                text(0, 9) -16
                text(0, 9) -16
                count(7) 7
                count(6) 0
                status(-2) 0
                status(-7) 0
                feed(50, 1) 8
                text(0, 9) -16
                wipe() 8
                text(0, 9) -10
                tape out 6
                text(0, 9) 0
                says(0, -1) 6
                """);
    }

    private static void open() {
        String sentence = "a ( , a not, a - ahead of a ONE while 6 of these are open";
        reads(sentence, "out ((((((1))))))", NO_FAULT);
        reads(sentence, "out (((((((1)))))))", 10);
        reads(sentence, "out ((((((", 10);
        reads(sentence, "out (((((((", 10);
        reads(sentence, "out " + "not ".repeat(6) + "1", NO_FAULT);
        reads(sentence, "out " + "not ".repeat(7) + "1", 28);
        reads(sentence, "out ------1", NO_FAULT);
        reads(sentence, "out -------1", 10);
        reads(sentence, "out -------", 10);
        reads(sentence, "out ((((((-1))))))", 10);
        reads(sentence, "out ((((((not 1))))))", 10);
        reads(sentence, "out (((((not 1)))))", NO_FAULT);
        reads(sentence, "out (((((-1)))))", NO_FAULT);
        reads(sentence, "out not not not -(-1)", NO_FAULT);
        reads(sentence, "out not not not -(-(1))", 19);
        reads(sentence, "out not not not not not not -1", 28);
        reads(sentence, "out not not not not not not (1)", 28);
        reads(sentence, "out ------(1)", 10);
        reads(sentence, "out ------gold", NO_FAULT);
        reads(sentence, "out 1 if ((((((1))))))", NO_FAULT);
        reads(sentence, "out 1 if (((((((1)))))))", 15);
        reads(sentence, "out ((((((1)))))) if ((((((1))))))", NO_FAULT);
        means(sentence, "((((((7))))))", 7);
        means(sentence, "------7", 7);
        means(sentence, "not not not not not not 7", 1);
    }

    private static void openTill() {
        String sentence = "(a ( till its ) , not and - till what they belong to ends)";
        reads(sentence, "out ((((((1))))))+((((((2))))))", NO_FAULT);
        reads(sentence, "out (((((((1)+(2)))))))", 10);
        reads(sentence, "out (((((1)+(2)+-3))))", NO_FAULT);
        reads(sentence, "out (((((-1)+(2)))))", NO_FAULT);
        reads(sentence, "out ((((((1)+(2))))))", NO_FAULT);
        reads(sentence, "out (((((-(1)+(2))))))", 10);
        reads(sentence, "out (((((-1+(2))))))", NO_FAULT);
        reads(sentence, "out ((((((1-1))))))", NO_FAULT);
        reads(sentence, "out ((((((1--1))))))", 12);
        reads(sentence, "out ------1-1", NO_FAULT);
        reads(sentence, "out ------1------1", NO_FAULT);
        reads(sentence, "out ------1-------1", NO_FAULT);
        reads(sentence, "out ------1--------1", 18);
        reads(sentence, "out -----(1)*(1)", NO_FAULT);
        reads(sentence, "out not not not not not not 1 and not 2", NO_FAULT);
        reads(sentence, "out not not not not not not 1 or (2)", NO_FAULT);
        reads(sentence, "out not not not not not not 1=(2)", 30);
        reads(sentence, "out not not not not not not 1+(2)", 30);
        reads(sentence, "out not not not not not not 1=-2", 30);
        reads(sentence, "out not not not not not not 1-2", NO_FAULT);
        reads(sentence, "out not not not not not (1)=(2)", NO_FAULT);
        reads(sentence, "out not not not not not (1)=-(2)", 29);
        reads(sentence, "out not not not not not not 1 if not 2", NO_FAULT);
        reads(sentence, "out not (not (not (1 and not 1)))", 25);
        reads(sentence, "out not (not (not (1) and not 1))", NO_FAULT);
    }

    private static void promises() {
        EdgeTest.edge("THE TAPE gets the n lowest bytes of a number behind it, the highest of these first (n 0 .. 4):"
                + " how many it has. BELOW, NO: n; FULL.", """
                feed(1, -1) -4
                feed(1, -2147483648) -4
                feed(1, 5) -7
                feed(1, 2147483647) -7
                feed(1869968416, 0) 0
                feed(1869968416, 4) 4        # out and a blank
                feed(1869968440, 1) 5        # its lowest byte: 8
                feed(-49, 1) 6               # 207, that begins no token
                text(0, 9) -15
                wipe() 6
                feed(2021158773, 2) 2        # o and u; two bytes ahead of them aren't taken
                feed(-35808, 2) 4
                feed(-201, 1) 5
                feed(-13946592, 3) 8
                text(0, 9) 0
                says(0, -1) 8                # out 7+1
                feed(-9146507, 4) 4
                text(0, 9) -10               # the highest byte comes first: it begins none
                wipe() 4
                28 x feed(538976288, 4) ?
                feed(0, 4) 116
                feed(0, 3) 119
                feed(0, 2) -8
                feed(0, 5) -7                # NO is ahead of FULL
                feed(0, -1) -4
                feed(0, 1) 120
                feed(0, 4) -8
                feed(0, 0) 120
                wipe() 120
                feed(0, 1) 1
                status(-8) 2
                status(-7) 3
                status(-4) 3
                """);
        EdgeTest.edge("THE TAPE is empty: how many bytes it had.", """
                wipe() 0
                feed(49, 1) 1
                wipe() 1
                wipe() 0
                count(7) 0
                30 x feed(0, 4) ?
                wipe() 120
                count(7) 0
                """);
        EdgeTest.edge("THE TAPE is a TEXT: its number; THE TAPE is empty then. NO: DAYS (from is not ahead of to, or one"
                + " beyond); FULL; -10 less the FAULT (THE TAPE stays).", """
                text(0, 1) -10               # an empty one
                text(1, 1) -7
                text(-1, 1) -7
                text(999, 1001) -7
                tape hide 3
                text(2, 1) -7
                text(1000, 999) -7
                count(7) 6
                text(0, 1000) 0
                count(7) 0
                text(0, 1000) -10
                count(6) 1
                status(-7) 5
                """);
    }
}
