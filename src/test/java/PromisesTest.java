/** Each promise by its number: answers worked out by hand, the last that is answered and the first that is refused. */
public final class PromisesTest {
    private static final int FAR = Asked.FAR;
    private static final int MIN = Asked.MIN;
    private static final int MAX = Asked.MAX;
    /** A PERSON in CELL 0 and a SHEPHERD (5) in CELL 5: WEIGHTS 5 and 10, SHARES 120 and 240, NEED 10 each. */
    private static final String PAIR = "pp00010;ps50510;";
    /** One of each KIND: WEIGHTS 21 30 38 9 48 11. */
    private static final String SIX = "pp00000;ps30300;pw00600;pc01200;po43500;pn13000;";
    /** WEIGHTS 10 19 1. */
    private static final String THREE = "pp00000;ps90000;pn93500;";
    /** PERSONS in one CELL. */
    private static final String ALIKE = "pp00000;pp00000;pp00000;";

    private PromisesTest() {
    }

    public static void main(String[] args) {
        test("1: a new object", PromisesTest::promise1);
        test("2: letter", PromisesTest::promise2);
        test("3: moor", PromisesTest::promise3);
        test("4: person", PromisesTest::promise4);
        test("5: owns", PromisesTest::promise5);
        test("6: loan", PromisesTest::promise6);
        test("7: go", PromisesTest::promise7);
        test("8: lend", PromisesTest::promise8);
        test("9: keep", PromisesTest::promise9);
        test("10: need", PromisesTest::promise10);
        test("11: sum", PromisesTest::promise11);
        test("12: days", PromisesTest::promise12);
        test("13: behind", PromisesTest::promise13);
        test("14: firstShort", PromisesTest::promise14);
        test("15: lasts", PromisesTest::promise15);
        test("16: bestCell", PromisesTest::promise16);
        test("17: takes", PromisesTest::promise17);
        test("18: worst", PromisesTest::promise18);
        test("19: newcomer", PromisesTest::promise19);
        test("20: leaves", PromisesTest::promise20);
        test("21: enough", PromisesTest::promise21);
        test("22: help", PromisesTest::promise22);
        test("23: net", PromisesTest::promise23);
        test("24: loans", PromisesTest::promise24);
        test("25: survey", PromisesTest::promise25);
        test("26: bestSurvey", PromisesTest::promise26);
        test("27: quarrel", PromisesTest::promise27);
        test("28: two", PromisesTest::promise28);
        test("29: crowd", PromisesTest::promise29);
        test("30: raise", PromisesTest::promise30);
        test("31: easter", PromisesTest::promise31);
        test("32: whatIs", PromisesTest::promise32);
        test("33: row", PromisesTest::promise33);
        test("34: judge", PromisesTest::promise34);
        test("35: clear", PromisesTest::promise35);
        test("36: lots", PromisesTest::promise36);
        test("37: image", PromisesTest::promise37);
        test("38: on", PromisesTest::promise38);
        test("39: count", PromisesTest::promise39);
        Asked.end("PromisesTest");
    }

    private static void test(String promise, Runnable body) {
        Asked.test("Promise " + promise, body);
    }

    private static void due(int want, int got) {
        Asked.due(want, got);
    }

    private static int tell(AloneIsAQuantity x, String text) {
        return Asked.tell(x, text);
    }

    private static AloneIsAQuantity moorOf(String text) {
        return Asked.moorOf(text);
    }

    /** Who is not one of the PEOPLE, if there are so many. */
    private static int[] notOneOf(int people) {
        return new int[] {-1, people, people + 1, MIN, MAX};
    }

    private static void promise1() {
        AloneIsAQuantity x = new AloneIsAQuantity();
        due(0, x.count(0));
        due(0, x.count(1));
        due(360, x.count(2));
        for (int what = 3; what <= 7; what++) {
            due(0, x.count(what));
        }
        for (int what = 11; what <= 16; what++) {
            due(0, x.count(what));
        }
        due(-1, x.person(0, 0));
        due(-3, x.on());
        due(-1000, x.moor());
        due(0, x.clear());
        due(360, x.sum(1));
        // One object knows nothing of another.
        due(1, tell(x, "pp00000;"));
        due(0, new AloneIsAQuantity().count(0));
        due(360, new AloneIsAQuantity().count(2));
    }

    private static void promise2() {
        AloneIsAQuantity x = new AloneIsAQuantity();
        due(1, x.letter(0));
        due(2, x.letter(255));
        due(-4, x.letter(-1));
        due(-4, x.letter(MIN));
        due(-6, x.letter(256));
        due(-6, x.letter(MAX));
        due(2, x.count(7));
        for (int i = 3; i <= 96; i++) {
            due(i, x.letter('a'));
        }
        due(-6, x.letter('a'));
        due(-6, x.letter(256));
        due(-4, x.letter(-1));
        due(96, x.count(7));
        due(-1000, x.moor());
        due(1, x.letter('a'));
    }

    private static void promise3() {
        // How many STATEMENTS; the letters are no more.
        AloneIsAQuantity x = new AloneIsAQuantity();
        due(1, tell(x, "pp93599;"));
        due(0, x.count(7));
        due(5, tell(x, "ps00000;a101;l1099;k19999;s999;"));
        due(1, x.person(1, 2));
        due(99, x.loan(1, 0));
        due(9999, x.person(1, 4));
        due(999, x.count(2));
        due(24, tell(x, Asked.times(24, "d01;")));
        due(-1000, x.moor());
        // With a FAULT they are no more either, nothing comes, and nothing is counted.
        String before = Asked.state(x);
        due(-1005, tell(x, "s100;x"));
        due(0, x.count(7));
        due(-2005, tell(x, "s100;a900;"));
        due(0, x.count(7));
        due(-1006, tell(x, "s100;a\u00ff"));
        Asked.same(before, Asked.state(x));
        Asked.same("0 0 0 0 0 0 ", Asked.refusals(x));
        // Of both kinds the first, of one kind the first place; 16 times 60 and 39 DAYS are 999.
        String long960 = Asked.times(16, "d60;");
        due(-1012, Asked.told("a000;s360;d0x;"));
        due(-2000, Asked.told("a000;s360;d61;"));
        due(-2064, Asked.told(long960 + "d40;"));
        due(17, Asked.told(long960 + "d39;"));
        due(-2068, Asked.told(long960 + "d39;d01;"));
    }

    private static void promise4() {
        AloneIsAQuantity x = moorOf(SIX);
        int[] weights = {21, 30, 38, 9, 48, 11};
        int[] shares = {49, 69, 87, 20, 110, 25};
        int[] figures = {0, 3, 0, 0, 4, 1};
        int[] cells = {0, 3, 6, 12, 35, 30};
        for (int i = 0; i < 6; i++) {
            x.need(i, 90 + i);
            x.keep(i, 9000 + i);
            due(i, x.person(i, 0));
            due(figures[i], x.person(i, 1));
            due(cells[i], x.person(i, 2));
            due(90 + i, x.person(i, 3));
            due(9000 + i, x.person(i, 4));
            due(weights[i], x.person(i, 5));
            due(shares[i], x.person(i, 6));
        }
        for (int one : notOneOf(6)) {
            due(-1, x.person(one, 0));
            due(-1, x.person(one, 7));
        }
        for (int what : new int[] {-1, 7, 8, MIN, MAX}) {
            due(-2, x.person(0, what));
            due(-2, x.person(5, what));
        }
        due(-1, moorOf(PAIR).person(2, 0));
        due(1, moorOf(PAIR).person(1, 0));
    }

    private static void promise5() {
        AloneIsAQuantity x = moorOf(PAIR + "l0130;");
        due(90, x.owns(0));
        due(270, x.owns(1));
        x.sum(90);
        due(0, x.owns(0));
        x.sum(87);
        due(-1, x.owns(0));
        x.sum(0);
        due(-30, x.owns(0));
        due(30, x.owns(1));
        for (int one : notOneOf(2)) {
            due(FAR + 1, x.owns(one));
        }
        due(5, x.count(11));
    }

    private static void promise6() {
        AloneIsAQuantity x = moorOf(PAIR + "l0130;");
        due(30, x.loan(0, 1));
        due(0, x.loan(1, 0));
        due(-1, x.loan(0, 0));
        due(-1, x.loan(1, 1));
        for (int one : notOneOf(2)) {
            due(-1, x.loan(0, one));
            due(-1, x.loan(one, 1));
            due(-1, x.loan(one, one));
        }
    }

    private static void promise7() {
        AloneIsAQuantity x = moorOf(PAIR);
        due(0, x.go(0, 35));
        due(35, x.go(0, 35));
        due(35, x.go(0, 5));
        due(1, x.person(0, 5));
        due(6, x.person(1, 5));
        due(52, x.person(0, 6));
        due(5, x.go(1, 0));
        for (int one : notOneOf(2)) {
            due(-1, x.go(one, 0));
        }
        for (int cell : new int[] {-1, 36, 37, MIN, MAX}) {
            due(-1, x.go(1, cell));
        }
        due(5, x.person(0, 2));
        due(0, x.person(1, 2));
    }

    private static void promise8() {
        AloneIsAQuantity x = moorOf(PAIR);
        due(0, x.lend(0, 1, 99));
        due(99, x.lend(0, 1, 7));
        due(7, x.loan(0, 1));
        due(0, x.loan(1, 0));
        due(113, x.owns(0));
        due(247, x.owns(1));
        due(-1, x.lend(0, 0, -1));
        due(-1, x.lend(0, 2, 100));
        due(-1, x.lend(-1, 0, 0));
        due(-4, x.lend(0, 1, -1));
        due(-6, x.lend(0, 1, 100));
        due(0, x.lend(1, 0, 1));
        due(7, x.lend(0, 1, 0));
        due(0, x.loan(0, 1));
        due(1, x.loan(1, 0));
    }

    private static void promise9() {
        AloneIsAQuantity x = moorOf(PAIR);
        due(0, x.keep(1, 9999));
        due(9999, x.keep(1, 1));
        due(1, x.keep(1, 0));
        due(-1, x.keep(2, -1));
        due(-1, x.keep(-1, 10000));
        due(-4, x.keep(1, -1));
        due(-6, x.keep(1, 10000));
        due(0, x.person(1, 4));
        due(0, x.person(0, 4));
    }

    private static void promise10() {
        AloneIsAQuantity x = moorOf(PAIR);
        due(10, x.need(1, 99));
        due(99, x.need(1, 0));
        due(-1, x.need(-1, 100));
        due(-1, x.need(2, -1));
        due(-4, x.need(1, -1));
        due(-6, x.need(1, 100));
        due(0, x.person(1, 3));
        due(10, x.person(0, 3));
    }

    private static void promise11() {
        AloneIsAQuantity x = moorOf(PAIR);
        due(360, x.sum(999));
        due(333, x.person(0, 6));
        due(666, x.person(1, 6));
        due(999, x.sum(0));
        due(0, x.person(0, 6));
        due(-4, x.sum(-1));
        due(-4, x.sum(MIN));
        due(-6, x.sum(1000));
        due(-6, x.sum(MAX));
        due(0, x.sum(90));
        due(90, x.count(2));
    }

    private static void promise12() {
        // SHARES 30 and 60; the first needs 50 and has 30 kept: one day it is enough, the next it is not.
        AloneIsAQuantity x = moorOf(PAIR + "s090;k00030;k19980;");
        x.need(0, 50);
        due(0, x.days(1));
        due(10, x.person(0, 4));
        due(9999, x.person(1, 4));
        due(1, x.days(1));
        due(0, x.person(0, 4));
        due(2, x.count(1));
        x.keep(0, 20);
        due(0, x.days(1));
        due(0, x.person(0, 4));
        x.keep(0, 60);
        due(0, x.days(3));
        // On the last one: both are SHORT then, or nobody who was SHORT before.
        x.sum(0);
        x.keep(1, 5);
        due(2, x.days(2));
        due(-4, x.days(0));
        due(-4, x.days(-7));
        due(-4, x.days(MIN));
        due(-6, x.days(61));
        due(-6, x.days(MAX));
        due(2, x.days(60));
        AloneIsAQuantity six = moorOf("pp00001;pp00001;pp00001;pp00001;pp00001;pp00001;s000;");
        due(6, six.days(1));
        x = new AloneIsAQuantity();
        for (int i = 0; i < 16; i++) {
            due(0, x.days(60));
        }
        due(-6, x.days(40));
        due(960, x.count(1));
        due(0, x.days(39));
        due(-6, x.days(1));
        due(-4, x.days(0));
        due(999, x.count(1));
    }

    private static void promise13() {
        AloneIsAQuantity x = moorOf(PAIR + "s090;k00030;");
        x.need(0, 50);
        int[] kept = {30, 10, 0, 0};
        int[] shorts = {0, 0, 1, 2};
        for (int n = 0; n < 4; n++) {
            due(kept[n], x.behind(0, n, 0));
            due(shorts[n], x.behind(0, n, 1));
        }
        due(98, x.behind(0, 99, 1));
        due(4950, x.behind(1, 99, 0));
        due(0, x.behind(1, 99, 1));
        due(30, x.person(0, 4));
        due(0, x.count(1));
        due(-1, x.behind(2, -1, 9));
        due(-1, x.behind(-1, 0, 0));
        due(-4, x.behind(0, -1, 9));
        due(-6, x.behind(0, 100, 9));
        due(-2, x.behind(0, 99, 2));
        due(-2, x.behind(0, 0, -1));
    }

    private static void promise14() {
        AloneIsAQuantity x = moorOf(PAIR + "s090;k00030;");
        x.need(0, 50);
        due(2, x.firstShort(0));
        due(0, x.firstShort(1));
        due(-2, x.firstShort(2));
        due(-2, x.firstShort(-1));
        x.days(10);
        // From now, whatever DAY it is; and of several the least.
        due(1, x.firstShort(0));
        x.sum(0);
        x.keep(0, 9999);
        x.keep(1, 9999);
        x.need(0, 99);
        x.need(1, 99);
        due(-9, x.firstShort(0));
        due(-9, x.firstShort(1));
        x.keep(1, 980);
        x.keep(0, 980);
        due(10, x.firstShort(0));
        due(0, x.firstShort(1));
        x.keep(1, 979 - 98);
        due(9, x.firstShort(0));
        due(1, x.firstShort(1));
        // DAY 99 is the last that is looked at.
        x.keep(0, 9999);
        x.keep(1, 9800);
        due(99, x.firstShort(0));
        due(1, x.firstShort(1));
        x.keep(1, 9801);
        due(-9, x.firstShort(0));
        due(-9, x.firstShort(1));
    }

    private static void promise15() {
        AloneIsAQuantity x = moorOf("pp00099;pp00099;s000;");
        due(0, x.lasts(0));
        x.keep(0, 99);
        due(1, x.lasts(0));
        x.keep(0, 9800);
        due(98, x.lasts(0));
        x.keep(0, 9801);
        due(99, x.lasts(0));
        x.keep(0, 9999);
        due(99, x.lasts(0));
        due(0, x.lasts(1));
        for (int one : notOneOf(2)) {
            due(-1, x.lasts(one));
        }
    }

    private static void promise16() {
        AloneIsAQuantity x = moorOf(PAIR);
        due(30, x.bestCell(0, 0));
        due(144, x.bestCell(0, 1));
        // A STEP beside the other is as good for him as in his CELL: 4 is less than 5.
        due(4, x.bestCell(0, 2));
        due(0, x.bestCell(1, 0));
        due(308, x.bestCell(1, 1));
        due(35, x.bestCell(1, 2));
        due(5, x.person(1, 2));
        due(-1, x.bestCell(2, 9));
        due(-1, x.bestCell(-1, 0));
        due(-2, x.bestCell(0, 3));
        due(-2, x.bestCell(0, -1));
        AloneIsAQuantity alone = moorOf("pp02000;");
        due(0, alone.bestCell(0, 0));
        due(360, alone.bestCell(0, 1));
        due(0, alone.bestCell(0, 2));
    }

    private static void promise17() {
        AloneIsAQuantity x = moorOf(PAIR);
        due(120, x.takes(0, 1));
        due(240, x.takes(1, 0));
        due(FAR + 1, x.takes(0, 0));
        due(FAR + 1, x.takes(0, 2));
        due(FAR + 1, x.takes(-1, 0));
        due(FAR + 1, x.takes(2, 2));
        due(4, x.count(11));
        // Far from the others, one may give more than he takes.
        AloneIsAQuantity three = moorOf(THREE);
        due(-87, three.takes(2, 0));
        due(208, three.takes(1, 0));
    }

    private static void promise18() {
        AloneIsAQuantity three = moorOf(THREE);
        due(1, three.worst(0));
        due(-9, moorOf("pp02000;").worst(0));
        due(-1, moorOf("pp02000;").worst(1));
        due(-1, three.worst(3));
        due(-1, three.worst(-1));
        due(1, moorOf(ALIKE).worst(0));
        due(0, moorOf(ALIKE).worst(1));
        due(0, moorOf(ALIKE).worst(2));
        // Also when nobody takes anything.
        due(1, moorOf(PAIR + "s000;").worst(0));
        due(0, moorOf(PAIR + "s000;").worst(1));
    }

    private static void promise19() {
        AloneIsAQuantity x = moorOf(PAIR);
        due(72, x.newcomer(0, 0));
        due(72, x.newcomer(0, 1));
        due(2, x.count(0));
        due(FAR + 1, x.newcomer(36, 9));
        due(FAR + 1, x.newcomer(-1, 0));
        due(FAR + 2, x.newcomer(0, 2));
        due(FAR + 2, x.newcomer(35, -1));
        AloneIsAQuantity six = moorOf(SIX);
        due(-9, six.newcomer(0, 0));
        due(-9, six.newcomer(0, 1));
        due(FAR + 1, six.newcomer(36, 0));
        due(FAR + 2, six.newcomer(35, 2));
        AloneIsAQuantity five = moorOf(SIX.substring(0, 40));
        due(360, five.newcomer(35, 0) + five.survey(35));
        due(360, new AloneIsAQuantity().newcomer(35, 0));
        due(0, new AloneIsAQuantity().newcomer(35, 1));
    }

    private static void promise20() {
        AloneIsAQuantity x = moorOf(PAIR);
        due(0, x.leaves(0));
        due(1, x.leaves(1));
        due(-2, x.leaves(2));
        due(-2, x.leaves(-1));
        due(-9, new AloneIsAQuantity().leaves(0));
        due(-9, new AloneIsAQuantity().leaves(1));
        due(0, moorOf("pp02000;").leaves(0));
        due(0, moorOf("pp02000;").leaves(1));
        // With 50 borrowed from the first, the second HAS 90; without him 60.
        AloneIsAQuantity lent = moorOf(PAIR + "s060;l0150;");
        due(1, lent.leaves(0));
        due(1, lent.leaves(1));
        // The loan between the two who stay is as it was.
        AloneIsAQuantity stay = moorOf(ALIKE + "l1299;");
        due(0, stay.leaves(0));
        due(2, stay.leaves(1));
        // They HAVE 0 2 1; without the first -, 3, 0; without the second 1, -, 2; without the third 2, 1, -.
        AloneIsAQuantity chain = moorOf(ALIKE + "s003;l0201;l2101;");
        due(1, chain.leaves(0));
        due(2, chain.leaves(1));
        // Who HAS as much as now has no more: 1 1 0, and without the third 1 1.
        due(0, moorOf(ALIKE + "s002;").leaves(0));
        due(1, moorOf(ALIKE + "s002;").leaves(1));
    }

    private static void promise21() {
        AloneIsAQuantity x = moorOf(PAIR);
        due(3, x.enough());
        x.sum(90);
        x.need(0, 31);
        x.need(1, 60);
        due(2, x.enough());
        x.need(0, 30);
        due(3, x.enough());
        x.need(1, 61);
        due(1, x.enough());
        x.need(1, 60);
        x.lend(1, 0, 1);
        due(1, x.enough());
        due(0, new AloneIsAQuantity().enough());
        due(63, moorOf(SIX).enough());
    }

    private static void promise22() {
        // One lacks 20, the other one, 5 STEPS from him, has 40 too much.
        AloneIsAQuantity x = moorOf(PAIR + "s090;");
        x.need(0, 50);
        x.need(1, 20);
        due(0, x.help(4, 0));
        due(0, x.help(4, 1));
        due(20, x.help(5, 0));
        due(1, x.help(5, 1));
        x.need(1, 40);
        due(20, x.help(10, 0));
        due(1, x.help(10, 1));
        x.need(1, 41);
        due(19, x.help(10, 0));
        due(0, x.help(10, 1));
        due(-4, x.help(-1, 9));
        due(-6, x.help(11, 9));
        due(-2, x.help(0, 2));
        due(-2, x.help(10, -1));
        due(0, new AloneIsAQuantity().help(0, 0));
        due(1, new AloneIsAQuantity().help(0, 1));
        // Each HAS 50: 30 and 10 too much, 10 and 30 too little.
        AloneIsAQuantity four = moorOf("pp00020;pp00040;pp00060;pp00080;s200;");
        due(40, four.help(0, 0));
        due(1, four.help(0, 1));
        four.need(3, 81);
        due(40, four.help(0, 0));
        due(0, four.help(0, 1));
        // 0 and 1 HAVE 10 too much, 2 and 3 lack 10: if 1 gives to 2, nobody is near enough to 3.
        four = moorOf("pp00000;pp00200;pp00100;pp00300;s000;l2010;l3110;");
        due(0, four.help(0, 0));
        due(20, four.help(1, 0));
        due(1, four.help(1, 1));
    }

    private static void promise23() {
        AloneIsAQuantity x = moorOf(PAIR + "l0130;l1010;");
        due(20, x.net(0));
        due(-20, x.net(1));
        x.lend(1, 0, 30);
        due(0, x.net(0));
        due(0, x.net(1));
        for (int one : notOneOf(2)) {
            due(FAR + 1, x.net(one));
        }
        due(5, x.count(11));
    }

    private static void promise24() {
        AloneIsAQuantity x = moorOf(PAIR + "l0130;l1010;");
        due(2, x.loans(0));
        due(1, x.loans(1));
        due(-2, x.loans(2));
        due(-2, x.loans(-1));
        due(0, new AloneIsAQuantity().loans(0));
        due(0, new AloneIsAQuantity().loans(1));
        AloneIsAQuantity six = moorOf(SIX + "l0110;l1210;l2010;");
        due(3, six.loans(0));
        due(0, six.loans(1));
        // NETS 6 4 -3 -3 -4: 6 with -3 and -3, 4 with -4; the greatest with the greatest were 4 loans.
        six = moorOf(SIX + "l0404;l0202;l1201;l1303;");
        due(4, six.loans(0));
        due(3, six.loans(1));
    }

    private static void promise25() {
        AloneIsAQuantity x = moorOf(PAIR);
        due(288, x.survey(0));
        due(-1, x.survey(36));
        due(-1, x.survey(-1));
        due(2, x.count(0));
        due(0, new AloneIsAQuantity().survey(35));
        // To six he comes too: he weighs 21 in CELL 0, the others 21 33 40 10 58 14 then.
        AloneIsAQuantity six = moorOf(SIX);
        due(322, six.survey(0));
        due(6, six.count(0));
        due(-1, six.survey(36));
    }

    private static void promise26() {
        due(0, moorOf(PAIR).bestSurvey());
        due(0, new AloneIsAQuantity().bestSurvey());
        // Beside the SHEPHERD and with him the surveyor weighs 1, the SHEPHERD 6.
        due(14, moorOf("ps52000;").bestSurvey());
        due(309, moorOf("ps52000;").survey(14));
        due(309, moorOf("ps52000;").survey(20));
        due(28, moorOf("ps53400;").bestSurvey());
        due(0, moorOf("ps50000;").bestSurvey());
        // To six in the last CELL he comes nearest in that CELL alone: a STEP beside it he weighs 6.
        due(35, moorOf("ps93500;ps93500;ps93500;ps93500;ps93500;ps93500;").bestSurvey());
    }

    private static void promise27() {
        AloneIsAQuantity x = moorOf(PAIR);
        due(6, x.quarrel(0, 1, 5, 0));
        due(8, x.quarrel(0, 1, 5, 1));
        due(11, x.quarrel(1, 0, 5, 0));
        due(-8, x.quarrel(1, 0, 5, 1));
        due(0, x.quarrel(0, 1, 4, 0));
        due(0, x.quarrel(0, 1, 4, 1));
        due(0, x.quarrel(0, 1, 1, 0));
        due(30, x.quarrel(0, 1, 9, 0));
        due(-9, x.quarrel(0, 1, 10, 0));
        due(-9, x.quarrel(0, 1, 10, 1));
        due(0, x.person(0, 2));
        due(FAR + 1, x.quarrel(0, 0, 0, 9));
        due(FAR + 1, x.quarrel(0, 2, 1, 0));
        due(FAR + 1, x.quarrel(-1, 0, 1, 0));
        due(FAR + 4, x.quarrel(0, 1, 0, 9));
        due(FAR + 6, x.quarrel(0, 1, 11, 9));
        due(FAR + 2, x.quarrel(0, 1, 10, 2));
        due(FAR + 2, x.quarrel(0, 1, 1, -1));
    }

    private static void promise28() {
        AloneIsAQuantity x = moorOf(PAIR);
        // The first goes down from the other, who goes left after him.
        due(42, x.two(0, 1));
        due(24, x.two(1, 0));
        due(-1, x.two(0, 0));
        due(-1, x.two(0, 2));
        due(-1, x.two(-1, 1));
        due(0, x.person(0, 2));
        due(5, x.person(1, 2));
        due(12, moorOf("pp03000;ps53500;").two(0, 1));
        due(43, moorOf("pp00500;ps50000;").two(0, 1));
        due(22, moorOf("pp00100;ps50300;").two(0, 1));
        due(33, moorOf("pp00400;ps50200;").two(0, 1));
        due(11, moorOf("pp00600;ps51800;").two(0, 1));
        due(34, moorOf("pp02400;ps51200;").two(0, 1));
        due(0, moorOf("pp00000;pp03500;").two(0, 1));
        due(0, moorOf("pp01400;ps51400;").two(0, 1));
        // The POET wants 3 STEPS between them, the COUPLE anything else, and can have it.
        due(-9, moorOf("po81400;pc61600;").two(0, 1));
        due(-9, moorOf("po81400;pc61600;").two(1, 0));
    }

    private static void promise29() {
        AloneIsAQuantity x = moorOf(PAIR);
        due(5, x.crowd(0));
        due(5, x.crowd(1));
        due(1, x.crowd(2));
        AloneIsAQuantity six = moorOf(SIX);
        due(1, six.crowd(0));
        due(10, six.crowd(1));
        due(2, six.crowd(2));
        six.go(2, 11);
        due(2, six.crowd(0));
        due(3, six.crowd(2));
        for (int what = 0; what < 3; what++) {
            due(-9, new AloneIsAQuantity().crowd(what));
            due(-9, moorOf("pp00000;").crowd(what));
        }
        due(-2, x.crowd(3));
        due(-2, x.crowd(-1));
    }

    private static void promise30() {
        AloneIsAQuantity x = moorOf(PAIR);
        // With 28 the first has 9 and the 1 that is left over.
        due(28, x.raise());
        due(360, x.count(2));
        due(0, new AloneIsAQuantity().raise());
        due(-9, moorOf("pp00000;pn93599;").raise());
        due(990, moorOf("pp00000;pn93590;").raise());
        due(-9, moorOf("pp00000;pn93591;").raise());
        // A ninth less 12 LENT is 99 with 999, and not with less.
        due(999, moorOf("pp00000;pn93399;l1012;").raise());
        due(-9, moorOf("pp00000;pn93399;l1013;").raise());
        due(99, moorOf("po50099;").raise());
        x.lend(1, 0, 10);
        due(30, x.raise());
    }

    private static void promise31() {
        AloneIsAQuantity x = moorOf(PAIR);
        int[] kept = {0, 298, 528, 758, 988, 1218, 1448, 1678, 1976, 2206};
        for (int n = 0; n < kept.length; n++) {
            due(kept[n], x.easter(0, 1, n));
        }
        due(0, x.count(1));
        due(5, x.person(1, 2));
        x.days(6);
        x.keep(1, 0);
        // DAY 7 is none of them, 8 is.
        due(230, x.easter(0, 1, 1));
        due(528, x.easter(0, 1, 2));
        // The first one's KEPT is another's to ask: with him it is the other who comes.
        due(6 * 110 + 110, x.easter(1, 0, 1));
        due(9999, x.easter(0, 1, 99));
        due(-1, x.easter(0, 0, -1));
        due(-1, x.easter(0, 2, 0));
        due(-1, x.easter(-1, 0, 0));
        due(-4, x.easter(0, 1, -1));
        due(-6, x.easter(0, 1, 100));
    }

    private static void promise32() {
        AloneIsAQuantity x = moorOf(PAIR + "s150;");
        due(-3, x.whatIs(0, 0));
        x.row(50);
        due(-3, x.whatIs(0, 0));
        x.row(99);
        due(3, x.whatIs(0, 0));
        due(1023, x.whatIs(0, 1));
        due(6, x.whatIs(1, 0));
        due(32, x.whatIs(1, 1));
        due(2, x.count(6));
        due(-1, x.whatIs(2, 9));
        due(-1, x.whatIs(-1, 0));
        due(-2, x.whatIs(0, 2));
        due(-2, x.whatIs(0, -1));
        x.row(0);
        due(-2, x.whatIs(0, 2));
        due(-3, x.whatIs(0, 1));
        due(0, x.person(0, 0));
        due(5, x.person(1, 1));
        // All of it must be so: the last share, too.
        x.clear();
        x.row(50);
        x.row(98);
        due(0, x.whatIs(0, 0));
        due(0, x.whatIs(1, 1));
    }

    private static void promise33() {
        AloneIsAQuantity x = new AloneIsAQuantity();
        due(-4, x.row(-1));
        due(-6, x.row(100));
        for (int i = 1; i <= 12; i++) {
            due(i, x.row(i == 1 ? 0 : 99));
        }
        due(-6, x.row(1));
        due(-6, x.row(100));
        due(-4, x.row(-1));
        due(12, x.count(6));
    }

    private static void promise34() {
        AloneIsAQuantity x = moorOf(PAIR + "s030;");
        x.row(0);
        x.row(99);
        due(-1, x.judge(2));
        due(-1, x.judge(-1));
        due(2, x.count(6));
        due(1, x.judge(1));
        due(0, x.count(6));
        due(-9, x.judge(1));
        // 10 a day are kept: 80, 90, 100 (told 99), 110 (told 99).
        x.keep(1, 80);
        x.row(80);
        x.row(90);
        x.row(99);
        x.row(99);
        due(-9, x.judge(1));
        due(0, x.count(6));
        due(80, x.person(1, 4));
        x.row(80);
        x.row(90);
        x.row(98);
        due(2, x.judge(1));
        x.row(79);
        due(0, x.judge(1));
        for (int i = 0; i < 12; i++) {
            x.row(i < 11 ? Math.min(99, 80 + 10 * i) : 0);
        }
        due(11, x.judge(1));
        due(0, x.count(6));
    }

    private static void promise35() {
        AloneIsAQuantity x = new AloneIsAQuantity();
        due(0, x.clear());
        x.row(1);
        x.row(2);
        due(2, x.clear());
        due(0, x.count(6));
        due(1, x.row(3));
        for (int i = 2; i <= 12; i++) {
            x.row(3);
        }
        due(12, x.clear());
        due(0, x.clear());
        due(1, x.row(3));
    }

    private static void promise36() {
        AloneIsAQuantity x = moorOf(PAIR);
        // Draws from 0: CELLS 23 and 21, then 18 and 23.
        due(80, x.lots(1, 0, 0));
        due(2, x.lots(1, 0, 1));
        due(200, x.lots(2, 0, 0));
        x.need(0, 99);
        due(3, x.lots(2, 0, 1));
        due(0, x.person(0, 2));
        due(-4, x.lots(0, 0, 9));
        due(-6, x.lots(21, 0, 9));
        due(-2, x.lots(20, 0, 2));
        due(-2, x.lots(1, 0, -1));
        due(-2, new AloneIsAQuantity().lots(1, 0, 2));
        due(-3, new AloneIsAQuantity().lots(1, 0, 0));
        due(7200, moorOf("pp00000;").lots(20, MIN, 0));
        due(20, moorOf("pp00000;").lots(20, MAX, 1));
    }

    private static void promise37() {
        AloneIsAQuantity x = moorOf(PAIR + "d03;l0130;");
        String then = Asked.state(x);
        due(3, x.image());
        Asked.same(then, Asked.state(x));
        x.days(4);
        due(7, x.image());
        due(7, x.on());
        due(0, new AloneIsAQuantity().image());
        due(999, Asked.onDay(999).image());
    }

    private static void promise38() {
        AloneIsAQuantity x = moorOf(PAIR + "d03;l0130;");
        x.image();
        x.row(7);
        x.letter('p');
        x.days(4);
        x.go(0, 9);
        x.need(0, 1);
        x.sum(7);
        x.lend(0, 1, 2);
        x.keep(1, 4);
        x.days(-1);
        due(3, x.on());
        due(3, x.count(1));
        due(360, x.count(2));
        due(0, x.person(0, 2));
        due(10, x.person(0, 3));
        due(120, x.person(0, 6));
        due(30, x.loan(0, 1));
        due(690, x.person(1, 4));
        // The ROW, the letters and the REFUSALS are as they were before ON.
        due(1, x.count(6));
        due(1, x.count(7));
        due(1, x.count(14));
        x.clear();
        x.moor();
        // PEOPLE who came since are none; the image is there again and again.
        due(1, tell(x, "pp00000;"));
        due(3, x.count(0));
        due(3, x.on());
        due(2, x.count(0));
        x.lend(0, 1, 0);
        due(1, tell(x, "pp00000;"));
        due(0, x.loan(2, 0));
        due(0, x.net(2));
        due(3, x.on());
        due(30, x.net(0));
        due(-3, new AloneIsAQuantity().on());
        x = new AloneIsAQuantity();
        due(0, x.image());
        due(1, tell(x, "pp00000;"));
        due(0, x.on());
        due(0, x.count(0));
    }

    private static void promise39() {
        AloneIsAQuantity x = moorOf(SIX + "d02;k09000;s010;");
        x.need(0, 99);
        x.need(5, 98);
        x.row(1);
        x.letter('x');
        due(6, x.count(0));
        due(2, x.count(1));
        due(10, x.count(2));
        due(157, x.count(3));
        due(197, x.count(4));
        due(9000 + 2 * (69 + 87 + 20 + 110 + 25), x.count(5));
        due(1, x.count(6));
        due(1, x.count(7));
        x.go(6, 0);
        x.owns(6);
        x.crowd(9);
        x.on();
        x.sum(-1);
        x.sum(1000);
        x.quarrel(0, 1, 11, 0);
        due(2, x.count(11));
        due(1, x.count(12));
        due(1, x.count(13));
        due(1, x.count(14));
        due(0, x.count(15));
        due(2, x.count(16));
        for (int what : new int[] {-1, 8, 9, 10, 17, MIN, MAX, -11, -16}) {
            due(-9, x.count(what));
        }
        // No what is refused here.
        Asked.same("2 1 1 1 0 2 ", Asked.refusals(x));
    }
}
