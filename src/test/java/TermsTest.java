/** "Terms", part I of the document: each sentence that names a boundary has a test of its own. */
public final class TermsTest {
    private static final String FORMS = "pp00000; ps00000; pw00000; pc00000; po00000; pn00000; a000; l0100; k00000; s000; d01;";
    /** Six PERSONS in CELL 0. */
    private static final String SIX = "pp00000;pp00000;pp00000;pp00000;pp00000;pp00000;";
    private static final String TWO = "pp00000;pp00000;";

    private TermsTest() {
    }

    public static void main(String[] args) {
        people();
        letters();
        faults();
        kinds();
        shares();
        Asked.end("TermsTest");
    }

    private static void test(String what, Runnable body) {
        Asked.test(what, body);
    }

    private static void due(int want, int got) {
        Asked.due(want, got);
    }

    private static int tell(AloneIsAQuantity x, String text) {
        return Asked.tell(x, text);
    }

    private static int told(String text) {
        return Asked.told(text);
    }

    private static AloneIsAQuantity moorOf(String text) {
        return Asked.moorOf(text);
    }

    private static int toldToTwo(String text) {
        return tell(moorOf(TWO), text);
    }

    // ---- CELLS, PEOPLE and their numbers

    private static void people() {
        test("CELLS 0 .. 35", TermsTest::cells);
        test("row CELL by 6, column CELL modulo 6; STEPS: rows and columns apart together", TermsTest::steps);
        test("PEOPLE 0 .. as they come (6 at most)", TermsTest::sixAtMost);
        test("FIGURE (0 .. 9)", () -> {
            due(0, moorOf("ps00000;").person(0, 1));
            due(9, moorOf("ps90000;").person(0, 1));
            due(-1002, told("ps/0000;"));
            due(-1002, told("ps:0000;"));
        });
        test("a CELL (more than one may be in one)", () -> {
            AloneIsAQuantity x = moorOf("pp00000;pp00000;pp00000;pp00000;pp00000;pp03500;");
            due(0, x.go(4, 35));
            due(0, x.crowd(0));
            for (int one = 0; one < 6; one++) {
                x.go(one, 35);
            }
            due(0, x.crowd(1));
            due(35, x.person(0, 2));
            due(35, x.person(5, 2));
        });
        test("NEED (0 .. 99 a DAY)", () -> {
            AloneIsAQuantity x = moorOf("pp00000;pp00099;");
            due(0, x.person(0, 3));
            due(99, x.person(1, 3));
            due(0, x.need(0, 99));
            due(99, x.need(1, 0));
            due(-6, x.need(0, 100));
            due(-4, x.need(0, -1));
            due(99, x.person(0, 3));
        });
        test("KEPT (0 .. 9999; 0 at first)", () -> {
            AloneIsAQuantity x = moorOf(TWO);
            due(0, x.person(0, 4));
            due(0, x.person(1, 4));
            due(0, x.keep(0, 9999));
            due(9999, x.keep(0, 0));
            due(-6, x.keep(0, 10000));
            due(-4, x.keep(0, -1));
            due(2, tell(x, "k00001;k19999;"));
            due(1, x.person(0, 4));
            due(9999, x.person(1, 4));
        });
        test("SUM (0 .. 999: 360 at first)", () -> {
            AloneIsAQuantity x = new AloneIsAQuantity();
            due(360, x.count(2));
            due(360, x.sum(999));
            due(999, x.sum(0));
            due(-6, x.sum(1000));
            due(-4, x.sum(-1));
            due(1, tell(x, "s999;"));
            due(999, x.count(2));
            due(1, tell(x, "s000;"));
            due(0, x.count(2));
        });
        test("LOANS: what each has LENT to each other one (0 .. 99; 0 at first)", TermsTest::loansAtFirst);
        test("DAY (0 .. 999; 0 at first)", () -> {
            AloneIsAQuantity x = new AloneIsAQuantity();
            due(0, x.count(1));
            Asked.passTo(x, 998);
            due(-6, x.days(2));
            due(0, x.days(1));
            due(-6, x.days(1));
            due(999, x.count(1));
            due(0, Asked.onDay(939).days(60));
            due(-6, Asked.onDay(940).days(60));
            due(0, Asked.onDay(940).days(59));
        });
    }

    private static void cells() {
        AloneIsAQuantity x = moorOf(TWO);
        due(0, x.go(0, 35));
        due(35, x.go(0, 0));
        due(-1, x.go(0, 36));
        due(-1, x.go(0, -1));
        due(0, x.person(0, 2));
        due(240, x.survey(0));
        due(180, x.survey(35));
        due(-1, x.survey(36));
        due(-1, x.survey(-1));
        due(120, x.newcomer(0, 0));
        due(180, x.newcomer(35, 0));
        due(Asked.FAR + 1, x.newcomer(36, 0));
        due(Asked.FAR + 1, x.newcomer(-1, 0));
        due(1, tell(x, "a135;"));
        due(-2000, tell(x, "a136;"));
        due(1, tell(x, "pp03500;"));
        due(-2000, tell(x, "pp03600;"));
        due(35, x.person(1, 2));
        due(35, x.person(2, 2));
        due(3, x.count(0));
    }

    private static void steps() {
        // The last of a row and the first of the next are far apart, and no row's end is near its begin.
        int[][] apart = {{0, 0, 0}, {35, 35, 0}, {0, 1, 1}, {0, 6, 1}, {0, 5, 5}, {5, 6, 6}, {11, 12, 6}, {29, 30, 6},
            {0, 30, 5}, {0, 35, 10}, {5, 30, 10}, {30, 35, 5}, {7, 14, 2}, {9, 14, 2}, {4, 13, 5}, {23, 24, 6}, {17, 35, 3}};
        for (int[] one : apart) {
            AloneIsAQuantity x = moorOf(TWO);
            x.go(0, one[0]);
            x.go(1, one[1]);
            due(one[2], x.crowd(0));
            due(one[2], x.crowd(1));
            x.go(0, one[1]);
            x.go(1, one[0]);
            due(one[2], x.crowd(0));
        }
    }

    private static void sixAtMost() {
        AloneIsAQuantity x = new AloneIsAQuantity();
        for (int i = 0; i < 6; i++) {
            due(i, x.count(0));
            due(-1, x.person(i, 0));
            due(1, tell(x, "ps" + i + "0" + i + "00;"));
            due(i, x.person(i, 1));
        }
        for (int i = 0; i < 6; i++) {
            due(i, x.person(i, 1));
            due(i, x.person(i, 2));
        }
        due(-2000, tell(x, "pp00000;"));
        due(6, x.count(0));
        due(-1, x.person(6, 0));
        due(-1, x.person(-1, 0));
        due(6, told(SIX));
        due(-2048, told(SIX + "pp00000;"));
    }

    private static void loansAtFirst() {
        AloneIsAQuantity x = moorOf(SIX);
        for (int one = 0; one < 6; one++) {
            for (int other = 0; other < 6; other++) {
                due(one == other ? -1 : 0, x.loan(one, other));
            }
        }
        due(0, x.lend(0, 5, 99));
        due(0, x.lend(5, 0, 1));
        due(-6, x.lend(0, 5, 100));
        due(-4, x.lend(0, 5, -1));
        due(99, x.loan(0, 5));
        due(1, x.loan(5, 0));
        due(99, x.lend(0, 5, 0));
        due(0, x.loan(0, 5));
        due(2, tell(x, "l4599;l5400;"));
        due(99, x.loan(4, 5));
        due(0, x.loan(5, 4));
    }

    // ---- letters and STATEMENTS

    private static void letters() {
        test("letters, one by one (96 at most)", () -> {
            AloneIsAQuantity x = new AloneIsAQuantity();
            Asked.letters(x, Asked.times(24, "d01;").substring(0, 95));
            due(96, x.letter(';'));
            due(-6, x.letter(';'));
            due(96, x.count(7));
            due(24, x.moor());
            due(24, x.count(1));
            due(12, told(SIX + "a035;a135;a235;a335;a435;a535;"));
        });
        test("each letter at each place of each STATEMENT: those it may be, and no other", TermsTest::eachLetter);
        test("each STATEMENT has ; behind", () -> {
            for (String form : FORMS.split(" ")) {
                int end = form.length() - 1;
                String bare = form.substring(0, end);
                due(-1000 - end, toldToTwo(bare));
                due(-1000 - end, toldToTwo(bare + bare));
                due(-1000 - form.length(), toldToTwo(form + ";"));
                due(1, toldToTwo(form));
                due(2, toldToTwo(form + form));
            }
        });
        test("p: one of PEOPLE more", () -> {
            AloneIsAQuantity x = new AloneIsAQuantity();
            for (int kind = 0; kind < 6; kind++) {
                due(1, tell(x, "p" + Asked.KINDS.charAt(kind) + (9 - kind) + "3" + kind + "9" + kind + ";"));
                due(kind + 1, x.count(0));
                due(kind, x.person(kind, 0));
                due(9 - kind, x.person(kind, 1));
                due(30 + kind, x.person(kind, 2));
                due(90 + kind, x.person(kind, 3));
                due(0, x.person(kind, 4));
            }
        });
        test("a: he is there", () -> {
            AloneIsAQuantity x = moorOf(TWO);
            due(2, tell(x, "a135;a009;"));
            due(9, x.person(0, 2));
            due(35, x.person(1, 2));
            due(1, tell(x, "a100;"));
            due(0, x.person(1, 2));
        });
        test("l: so much is LENT by the first to the other now", () -> {
            AloneIsAQuantity x = moorOf(TWO);
            due(2, tell(x, "l0150;l0107;"));
            due(7, x.loan(0, 1));
            due(0, x.loan(1, 0));
            due(2, tell(x, "l1099;l0100;"));
            due(0, x.loan(0, 1));
            due(99, x.loan(1, 0));
        });
        test("k: KEPT (4 digits)", () -> {
            AloneIsAQuantity x = moorOf(TWO);
            due(2, tell(x, "k19999;k01234;"));
            due(1234, x.person(0, 4));
            due(9999, x.person(1, 4));
            due(1, tell(x, "k10000;"));
            due(0, x.person(1, 4));
        });
        test("s: SUM (3 digits)", () -> {
            AloneIsAQuantity x = moorOf(TWO);
            due(2, tell(x, "s999;s123;"));
            due(123, x.count(2));
            due(62, x.person(0, 6));
            due(61, x.person(1, 6));
        });
        test("d: DAYS (2 digits, 1 .. 60): they go by", () -> {
            AloneIsAQuantity x = moorOf("pp00060;");
            due(-2000, tell(x, "d00;"));
            due(-2000, tell(x, "d61;"));
            due(-2000, tell(x, "d99;"));
            due(0, x.count(1));
            due(1, tell(x, "d01;"));
            due(300, x.person(0, 4));
            due(1, tell(x, "d60;"));
            due(61, x.count(1));
            due(9999, x.person(0, 4));
        });
        test("at least one STATEMENT", () -> {
            due(-1000, told(""));
            due(1, told("d01;"));
            AloneIsAQuantity x = moorOf(TWO);
            due(-1000, x.moor());
            due(2, x.count(0));
        });
    }

    private static boolean mayBe(char due, int place, char letter) {
        if (place == 0) {
            return "palksd".indexOf(letter) >= 0;
        }
        if (place == 1 && Asked.KINDS.indexOf(due) >= 0) {
            return Asked.KINDS.indexOf(letter) >= 0;
        }
        return due == ';' ? letter == ';' : letter >= '0' && letter <= '9';
    }

    private static void eachLetter() {
        for (String form : FORMS.split(" ")) {
            for (int place = 0; place < form.length(); place++) {
                for (char letter = 0; letter < 256; letter++) {
                    boolean fits = mayBe(form.charAt(place), place, letter);
                    String head = form.substring(0, place) + letter;
                    // The head alone goes on, and lacks what is behind it, or is wrong at its last letter.
                    int wrongHead = fits ? -1000 - head.length() : -1000 - place;
                    boolean whole = fits && place == form.length() - 1;
                    due(whole ? 1 : wrongHead, toldToTwo(head));
                    if (!fits) {
                        due(-1005 - place, toldToTwo("s360;" + head + form.substring(place + 1)));
                    }
                }
            }
        }
    }

    // ---- FAULTS

    private static void faults() {
        test("FAULT kind 1: the place of the first letter with which no MOOR can go on", () -> {
            due(-1000, told("x"));
            due(-1000, told("Pp00000;"));
            due(-1001, told("p:00000;"));
            due(-1004, told("d01;;"));
            due(-1004, told("d01; d01;"));
            due(-1007, told("pp000000;"));
            due(-1005, told("d01;dd1;xxx"));
            due(-1095, told(Asked.times(24, "d01;").substring(0, 95) + ":"));
            due(-1092, told(Asked.times(23, "d01;") + "x01;"));
        });
        test("FAULT kind 1: the end, if something lacks", () -> {
            for (String form : FORMS.split(" ")) {
                for (int length = 0; length < form.length(); length++) {
                    due(-1000 - length, toldToTwo(form.substring(0, length)));
                }
                for (int length = 1; length < form.length(); length++) {
                    due(-1000 - form.length() - length, toldToTwo(form + form.substring(0, length)));
                }
            }
            due(-1095, told(Asked.times(24, "d01;").substring(0, 95)));
            due(-1096, told(Asked.times(23, "d01;") + "s000"));
        });
        test("FAULT kind 1, else kind 2", () -> {
            due(-1008, told("pp03600;x"));
            due(-1008, told("pp03600;;"));
            due(-1007, told("pp03600"));
            due(-1007, told("d61;d61"));
            due(-1005, told("a000;x"));
            due(-2000, told("a000;d61;"));
        });
        test("FAULT kind 2: a number out of range", () -> {
            due(-2000, told("pp03600;"));
            due(-2000, told("pp09999;"));
            due(1, told("pp93599;"));
            due(-2000, toldToTwo("a036;"));
            due(-2000, toldToTwo("a199;"));
            due(1, toldToTwo("a135;"));
            due(-2000, toldToTwo("d00;"));
            due(-2000, toldToTwo("d61;"));
            due(1, toldToTwo("d60;"));
            due(1, toldToTwo("d01;"));
            due(1, toldToTwo("l0199;"));
            due(1, toldToTwo("k19999;"));
            due(1, toldToTwo("s999;"));
        });
        test("FAULT kind 2: nobody ahead of it with that number", TermsTest::nobodyAhead);
        test("FAULT kind 2: one twice", () -> {
            due(-2000, toldToTwo("l0010;"));
            due(-2000, toldToTwo("l1100;"));
            due(1, toldToTwo("l0110;"));
            due(1, toldToTwo("l1010;"));
            due(-2000, told("l0000;"));
        });
        test("FAULT kind 2: DAY above 999", () -> {
            due(1, tell(Asked.onDay(939), "d60;"));
            due(-2000, tell(Asked.onDay(940), "d60;"));
            due(1, tell(Asked.onDay(998), "d01;"));
            due(-2000, tell(Asked.onDay(998), "d02;"));
            due(-2000, tell(Asked.onDay(999), "d01;"));
            due(-2004, tell(Asked.onDay(998), "d01;d01;"));
            due(-2000, tell(Asked.onDay(999), "d61;"));
            due(2, tell(Asked.onDay(999), "s000;pp00000;"));
            AloneIsAQuantity x = Asked.onDay(996);
            due(-2012, tell(x, "d01;d01;d01;d01;"));
            due(996, x.count(1));
            due(3, tell(x, "d01;d01;d01;"));
            due(999, x.count(1));
        });
        test("FAULT kind 2: no room for more", () -> {
            due(6, told(SIX));
            due(-2048, told(SIX + "pp00000;"));
            due(-2048, told(SIX + "pn93599;a000;"));
            due(-2032, toldToTwo(SIX.substring(16) + "pp00000;"));
            due(4, toldToTwo(SIX.substring(16)));
            due(-2000, tell(moorOf(SIX), "ps00000;"));
            due(1, tell(moorOf(SIX), "a500;"));
        });
        test("FAULT kind 2: of the first STATEMENT, behind all ahead of it in the text", TermsTest::behindAllAhead);
        test("without FAULT all of it comes, with one nothing", TermsTest::allOrNothing);
    }

    private static void nobodyAhead() {
        for (int one = 0; one < 10; one++) {
            for (int people = 0; people <= 6; people++) {
                AloneIsAQuantity x = new AloneIsAQuantity();
                Asked.letters(x, SIX.substring(0, 8 * people));
                x.moor();
                int answer = one < people ? 1 : -2000;
                due(answer, tell(x, "a" + one + "00;"));
                due(answer, tell(x, "k" + one + "0000;"));
                due(one > 0 ? answer : -2000, tell(x, "l" + one + "000;"));
                due(one > 0 ? answer : -2000, tell(x, "l0" + one + "00;"));
            }
        }
    }

    private static void behindAllAhead() {
        due(2, told("pp00000;a035;"));
        due(-2000, told("a035;pp00000;"));
        due(-2008, told("pp00000;a135;pp00000;"));
        due(-2008, told("pp00000;k10000;pp00000;"));
        due(3, told("pp00000;pp00000;l1099;"));
        due(-2008, told("pp00000;l1099;pp00000;"));
        due(-2008, told("pp00000;l0199;pp00000;"));
        due(2, told("pp00000;k09999;"));
        due(-2009, told("d01;s000;a000;d00;"));
        due(-2004, told("d01;d00;a000;"));
        // The days of the text go by with what it has told so far: nothing, then 360, then 180 a day.
        AloneIsAQuantity x = new AloneIsAQuantity();
        due(7, tell(x, "s000;pp00000;d01;s360;d01;pp00000;d01;"));
        due(540, x.person(0, 4));
        due(180, x.person(1, 4));
    }

    private static void allOrNothing() {
        AloneIsAQuantity x = moorOf("pp00010;ps50510;");
        String before = Asked.state(x);
        due(-2035, tell(x, "pn00000;a035;l0120;k00500;s100;d01;d00;"));
        Asked.same(before, Asked.state(x));
        due(-1038, tell(x, "pn00000;a035;l0120;k00500;s100;d01;d01"));
        Asked.same(before, Asked.state(x));
        Asked.same("0 0 0 0 0 0 ", Asked.refusals(x));
        due(6, tell(x, "pn00000;a035;l0120;k00500;s100;d01;"));
        due(3, x.count(0));
        due(1, x.count(1));
        due(100, x.count(2));
        due(35, x.person(0, 2));
        due(20, x.loan(0, 1));
    }

    // ---- KINDS

    /** The WEIGHT of one with PERSONS in the CELLS told beside him; he is the first, and the last. */
    private static void weighs(int want, String statement, int... cells) {
        StringBuilder others = new StringBuilder();
        for (int cell : cells) {
            others.append("pp0").append(cell / 10).append(cell % 10).append("00;");
        }
        due(want, moorOf(statement + others).person(0, 5));
        due(want, moorOf(others + statement).person(cells.length, 5));
    }

    private static void kinds() {
        test("p PERSON: STEPS to all others together", () -> {
            weighs(1, "pp00000;", 1);
            weighs(2, "pp00000;", 2);
            weighs(2, "pp90000;", 0, 2);
            weighs(10, "pp00000;", 35);
            weighs(50, "pp00000;", 35, 35, 35, 35, 35);
            weighs(18, "pp01400;", 0, 5, 30, 0);
        });
        test("s SHEPHERD under PERSON: FIGURE more", () -> {
            weighs(1, "ps00000;", 1);
            weighs(10, "ps90000;", 1);
            weighs(2, "ps00000;", 2);
            weighs(5, "ps30000;", 2);
            weighs(59, "ps90000;", 35, 35, 35, 35, 35);
        });
        test("w WIDOW under PERSON: twice a PERSON's", () -> {
            weighs(2, "pw00000;", 1);
            weighs(4, "pw90000;", 2);
            weighs(100, "pw90000;", 35, 35, 35, 35, 35);
        });
        test("c COUPLE under PERSON: half of a PERSON's, cut", () -> {
            weighs(1, "pc00000;", 2);
            weighs(1, "pc00000;", 3);
            weighs(2, "pc90000;", 4);
            weighs(2, "pc90000;", 5);
            weighs(25, "pc00000;", 35, 35, 35, 35, 35);
        });
        test("o POET under SHEPHERD: 5 more, if nobody is nearer than 3 STEPS", () -> {
            weighs(2, "po00000;", 2);
            weighs(8, "po00000;", 3);
            weighs(9, "po00000;", 4);
            weighs(11, "po90000;", 2);
            weighs(17, "po90000;", 3);
            // By rows as by columns; one who is near is enough, whoever he is.
            weighs(2, "po00000;", 12);
            weighs(8, "po00000;", 18);
            weighs(8, "po00000;", 8);
            weighs(2, "po00000;", 7);
            weighs(12, "po00000;", 2, 35);
            weighs(12, "po00000;", 35, 2);
            weighs(18, "po00000;", 3, 35);
            weighs(18, "po00000;", 35, 3);
            weighs(6, "po00000;");
            weighs(15, "po90000;");
            weighs(1, "po00000;", 0);
        });
        test("n NEWCOMER under COUPLE: FIGURE less than a COUPLE's", () -> {
            weighs(5, "pn00000;", 35);
            weighs(2, "pn30000;", 35);
            weighs(1, "pn40000;", 35);
            weighs(1, "pn50000;", 35);
            weighs(1, "pn90000;", 35);
            weighs(1, "pn90000;", 35, 35);
            weighs(6, "pn90000;", 35, 35, 35);
        });
        test("of each 1 at least", () -> {
            weighs(1, "pp00000;", 0);
            weighs(1, "ps00000;", 0);
            weighs(1, "pc00000;", 0);
            weighs(1, "pc00000;", 1);
            weighs(1, "po00000;", 0);
            weighs(1, "pn00000;", 0);
            weighs(1, "pn90000;", 0);
            weighs(1, "pp00000;");
            weighs(1, "pc00000;");
            weighs(1, "pn90000;");
        });
        test("of each 1 at least (what one is under, too)", () -> {
            weighs(10, "ps90000;", 0);
            weighs(10, "ps90000;");
            weighs(2, "pw00000;", 0);
            weighs(2, "pw00000;");
            weighs(10, "po90000;", 0);
            weighs(6, "po00000;");
            // A NEWCOMER is under a COUPLE of 1: with FIGURE 0 he weighs just that.
            weighs(1, "pn00000;", 1);
            weighs(1, "pn00000;", 2);
        });
    }

    // ---- SHARE, HAS, a DAY

    private static void shares() {
        test("SHARE: SUM times WEIGHT by all WEIGHTS, cut", () -> {
            // WEIGHTS 5 and 10.
            AloneIsAQuantity x = moorOf("pp00000;ps50500;");
            int[][] due = {{0, 0, 0}, {1, 1, 0}, {2, 1, 1}, {3, 1, 2}, {4, 2, 2}, {5, 2, 3}, {6, 2, 4}, {999, 333, 666}, {998, 333, 665}};
            for (int[] one : due) {
                x.sum(one[0]);
                due(one[1], x.person(0, 6));
                due(one[2], x.person(1, 6));
            }
        });
        test("SHARE: what is left over 1 each to the first ones", () -> {
            AloneIsAQuantity x = moorOf(SIX);
            for (int sum = 0; sum <= 13; sum++) {
                x.sum(sum);
                for (int one = 0; one < 6; one++) {
                    due(sum / 6 + (one < sum % 6 ? 1 : 0), x.person(one, 6));
                }
            }
            AloneIsAQuantity alone = moorOf("pn90000;s001;");
            due(1, alone.person(0, 6));
            alone.sum(0);
            due(0, alone.person(0, 6));
            alone.sum(999);
            due(999, alone.person(0, 6));
        });
        test("HAS: his SHARE, and what he has borrowed, less what he has LENT (may be below 0)", () -> {
            AloneIsAQuantity x = moorOf(SIX + "s060;l0110;l2003;");
            due(3, x.owns(0));
            due(20, x.owns(1));
            due(7, x.owns(2));
            due(10, x.owns(3));
            x.lend(0, 5, 3);
            due(0, x.owns(0));
            x.lend(0, 5, 4);
            due(-1, x.owns(0));
            for (int other = 1; other < 6; other++) {
                x.lend(0, other, 99);
                x.lend(other, 0, 0);
            }
            due(10 - 495, x.owns(0));
            due(109, x.owns(5));
        });
        test("A DAY: DAY is 1 more", () -> {
            AloneIsAQuantity x = moorOf(TWO);
            x.days(1);
            due(1, x.count(1));
            x.days(60);
            due(61, x.count(1));
        });
        test("A DAY: HAS less NEED is kept (KEPT so much more, 9999 at most)", TermsTest::kept);
        test("A DAY: taken from KEPT (0 at least: SHORT, if KEPT was not enough)", TermsTest::taken);
    }

    private static void kept() {
        AloneIsAQuantity x = moorOf("pp00010;s012;");
        due(0, x.days(1));
        due(2, x.person(0, 4));
        x.keep(0, 9996);
        due(0, x.days(1));
        due(9998, x.person(0, 4));
        x.sum(11);
        x.days(1);
        due(9999, x.person(0, 4));
        x.days(1);
        due(9999, x.person(0, 4));
        x.keep(0, 9998);
        x.sum(12);
        x.days(1);
        due(9999, x.person(0, 4));
        // What he has borrowed is kept as his own is; who HAS just his NEED keeps nothing, and is not SHORT.
        AloneIsAQuantity two = moorOf(TWO + "s020;l0105;");
        two.need(0, 5);
        due(0, two.days(1));
        due(0, two.person(0, 4));
        due(15, two.person(1, 4));
    }

    private static void taken() {
        // He HAS 10 and needs 30.
        int[][] due = {{21, 1, 0}, {20, 0, 0}, {19, 0, 1}, {1, 0, 1}, {0, 0, 1}, {9999, 9979, 0}};
        for (int[] one : due) {
            AloneIsAQuantity x = moorOf("pp00030;s010;");
            x.keep(0, one[0]);
            due(one[2], x.days(1));
            due(one[1], x.person(0, 4));
        }
        // Who HAS less than nothing takes that from KEPT, too: 5 and 30.
        AloneIsAQuantity x = moorOf("pp00030;pp00000;s000;l0105;");
        x.keep(0, 35);
        due(0, x.days(1));
        due(0, x.person(0, 4));
        due(1, x.days(1));
        due(0, x.person(0, 4));
        due(10, x.person(1, 4));
    }
}
