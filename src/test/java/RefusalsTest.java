/**
 * THE IMAGE and REFUSALS: for each call the numbers in the order in which it tells them, that nothing changes but how
 * many there were, and that a call that only asks changes nothing at all.
 */
public final class RefusalsTest {
    private static final int MIN = Asked.MIN;
    private static final int MAX = Asked.MAX;
    private static final int FAR = Asked.FAR;
    /** None of these is one of three PEOPLE, a CELL, a what of any call. */
    private static final int[] NOT_ONE = {-1, 3, 4, 6, MIN, MAX};
    private static final int[] NOT_A_CELL = {-1, 36, 37, MIN, MAX};
    private static final int[] BELOW_0 = {-1, -2, MIN};
    private static final int[] BELOW_1 = {0, -1, MIN};

    private static final Asked.Call[] ASKING = {x -> x.person(0, 6), x -> x.owns(0), x -> x.loan(0, 1), x -> x.behind(0, 99, 0),
        x -> x.behind(2, 99, 1), x -> x.firstShort(0), x -> x.firstShort(1), x -> x.lasts(0), x -> x.bestCell(0, 0),
        x -> x.bestCell(0, 1), x -> x.bestCell(0, 2), x -> x.takes(0, 1), x -> x.worst(0), x -> x.newcomer(0, 0),
        x -> x.newcomer(0, 1), x -> x.leaves(0), x -> x.leaves(1), x -> x.enough(), x -> x.help(5, 0), x -> x.help(5, 1),
        x -> x.net(0), x -> x.loans(0), x -> x.loans(1), x -> x.survey(0), x -> x.bestSurvey(),
        x -> x.quarrel(0, 1, 5, 0), x -> x.quarrel(0, 1, 5, 1), x -> x.quarrel(0, 1, 10, 0), x -> x.two(0, 1),
        x -> x.crowd(0), x -> x.crowd(1), x -> x.crowd(2), x -> x.raise(), x -> x.easter(0, 1, 99),
        x -> x.lots(20, 7, 0), x -> x.lots(20, 7, 1), x -> x.count(0), x -> x.count(8), x -> x.count(-1), x -> x.count(17)};

    private RefusalsTest() {
    }

    public static void main(String[] args) {
        refusalsOfWhatIsTold();
        refusalsOfPeople();
        refusalsOfThoughts();
        refusalsOfRowsAndImages();
        Asked.test("who only asks changes nothing", RefusalsTest::askingChangesNothing);
        Asked.test("what is thought is thought of what is now", RefusalsTest::thoughtOfNow);
        Asked.test("nobody is there: what all calls answer then", RefusalsTest::nobodyIsThere);
        image();
        Asked.end("RefusalsTest");
    }

    /** Three PEOPLE, a ROW of two numbers, a STATEMENT in letters, and an IMAGE that is not as it is now. */
    private static AloneIsAQuantity some() {
        AloneIsAQuantity x = Asked.moorOf("pp01020;ps52030;pc33540;l0105;k00100;s300;d02;");
        x.image();
        x.go(0, 3);
        x.lend(2, 1, 7);
        x.sum(200);
        x.days(1);
        x.row(7);
        x.row(8);
        Asked.letters(x, "pw41199;");
        return x;
    }

    private static void due(int want, int got) {
        Asked.due(want, got);
    }

    /** The call is refused, there is one refusal more of its number, and all else is as it was. */
    private static void refused(int want, Asked.Call call) {
        refused(want, some(), some(), call);
    }

    private static void refused(int want, AloneIsAQuantity x, AloneIsAQuantity twin, Asked.Call call) {
        due(want, call.of(x));
        int number = want > 0 ? want - FAR : -want;
        for (int what = 11; what <= 16; what++) {
            due(twin.count(what) + (what == 10 + number ? 1 : 0), x.count(what));
        }
        alike(twin, x);
    }

    /** As far as can be seen: what is now, the letters, the ROW, the IMAGE. */
    private static void alike(AloneIsAQuantity twin, AloneIsAQuantity x) {
        Asked.same(Asked.state(twin), Asked.state(x));
        if (twin.count(0) > 0) {
            due(twin.judge(0), x.judge(0));
        }
        due(twin.on(), x.on());
        Asked.same(Asked.state(twin), Asked.state(x));
        due(twin.moor(), x.moor());
        Asked.same(Asked.state(twin), Asked.state(x));
    }

    private static void test(String what, Runnable body) {
        Asked.test("REFUSALS of " + what, body);
    }

    // ---- each call's REFUSALS, in its order

    private static void refusalsOfWhatIsTold() {
        test("letter: -4; -6", () -> {
            for (int c : BELOW_0) {
                refused(-4, x -> x.letter(c));
            }
            for (int c : new int[] {256, 257, MAX}) {
                refused(-6, x -> x.letter(c));
            }
            for (int c : new int[] {-1, 0, 255, 256}) {
                refused(c < 0 ? -4 : -6, full(), full(), x -> x.letter(c));
            }
        });
        test("sum: -4; -6", () -> {
            for (int v : BELOW_0) {
                refused(-4, x -> x.sum(v));
            }
            for (int v : new int[] {1000, 1001, MAX}) {
                refused(-6, x -> x.sum(v));
            }
        });
        test("days: -4; -6", () -> {
            for (int n : BELOW_1) {
                refused(-4, x -> x.days(n));
                refused(-4, late(), late(), x -> x.days(n));
            }
            for (int n : new int[] {61, 62, MAX}) {
                refused(-6, x -> x.days(n));
            }
            for (int n : new int[] {2, 60, 61, MAX - 998, MAX}) {
                refused(-6, late(), late(), x -> x.days(n));
            }
        });
        test("person: -1; -2", () -> {
            for (int one : NOT_ONE) {
                refused(-1, x -> x.person(one, 0));
                refused(-1, x -> x.person(one, 7));
            }
            for (int what : new int[] {-1, 7, 8, MIN, MAX}) {
                refused(-2, x -> x.person(2, what));
            }
        });
        test("owns, net: -1", () -> {
            for (int one : NOT_ONE) {
                refused(FAR + 1, x -> x.owns(one));
                refused(FAR + 1, x -> x.net(one));
            }
        });
        test("survey, lasts, worst, judge: -1", () -> {
            for (int cell : NOT_A_CELL) {
                refused(-1, x -> x.survey(cell));
            }
            for (int one : NOT_ONE) {
                refused(-1, x -> x.lasts(one));
                refused(-1, x -> x.worst(one));
                refused(-1, x -> x.judge(one));
            }
        });
    }

    private static AloneIsAQuantity full() {
        AloneIsAQuantity x = some();
        while (x.count(7) < 96) {
            x.letter('d');
        }
        return x;
    }

    private static AloneIsAQuantity late() {
        AloneIsAQuantity x = some();
        Asked.passTo(x, 998);
        return x;
    }

    private static void refusalsOfPeople() {
        test("loan, takes, two: -1 either (one twice, too)", () -> {
            for (int one = 0; one < 3; one++) {
                int twice = one;
                refused(-1, x -> x.loan(twice, twice));
                refused(FAR + 1, x -> x.takes(twice, twice));
                refused(-1, x -> x.two(twice, twice));
            }
            for (int one : NOT_ONE) {
                for (int other : new int[] {0, 2, one}) {
                    refused(-1, x -> x.loan(one, other));
                    refused(-1, x -> x.loan(other, one));
                    refused(FAR + 1, x -> x.takes(one, other));
                    refused(FAR + 1, x -> x.takes(other, one));
                    refused(-1, x -> x.two(one, other));
                    refused(-1, x -> x.two(other, one));
                }
            }
        });
        test("go: -1 either", () -> {
            for (int one : NOT_ONE) {
                refused(-1, x -> x.go(one, 0));
                refused(-1, x -> x.go(one, 36));
            }
            for (int cell : NOT_A_CELL) {
                refused(-1, x -> x.go(0, cell));
                refused(-1, x -> x.go(2, cell));
            }
        });
        test("lend: -1; -4; -6", () -> {
            for (int one : NOT_ONE) {
                for (int v : new int[] {-1, 0, 100}) {
                    refused(-1, x -> x.lend(one, 0, v));
                    refused(-1, x -> x.lend(0, one, v));
                    refused(-1, x -> x.lend(one, one, v));
                    refused(-1, x -> x.lend(1, 1, v));
                }
            }
            for (int v : BELOW_0) {
                refused(-4, x -> x.lend(0, 1, v));
            }
            for (int v : new int[] {100, 101, MAX}) {
                refused(-6, x -> x.lend(2, 1, v));
            }
        });
        test("keep, need: -1; -4; -6", () -> {
            for (int one : NOT_ONE) {
                for (int v : new int[] {-1, 0, 10000}) {
                    refused(-1, x -> x.keep(one, v));
                    refused(-1, x -> x.need(one, v));
                }
            }
            for (int v : BELOW_0) {
                refused(-4, x -> x.keep(0, v));
                refused(-4, x -> x.need(0, v));
            }
            for (int over : new int[] {1, 2, MAX - 9999}) {
                refused(-6, x -> x.keep(2, 9999 + over));
                refused(-6, x -> x.need(2, 99 + over));
            }
        });
    }

    private static void refusalsOfThoughts() {
        test("behind: -1; -4; -6; -2", () -> {
            for (int one : NOT_ONE) {
                refused(-1, x -> x.behind(one, 0, 0));
                refused(-1, x -> x.behind(one, -1, 2));
                refused(-1, x -> x.behind(one, 100, 2));
            }
            for (int n : BELOW_0) {
                refused(-4, x -> x.behind(0, n, 0));
                refused(-4, x -> x.behind(0, n, 2));
            }
            for (int n : new int[] {100, 101, MAX}) {
                refused(-6, x -> x.behind(0, n, 1));
                refused(-6, x -> x.behind(0, n, -1));
            }
            for (int what : new int[] {-1, 2, MIN, MAX}) {
                refused(-2, x -> x.behind(0, 0, what));
                refused(-2, x -> x.behind(2, 99, what));
            }
        });
        test("firstShort, leaves, loans: -2 but 0 and 1; crowd: but 0 .. 2", () -> {
            for (int what : new int[] {-1, 2, 3, MIN, MAX}) {
                refused(-2, x -> x.firstShort(what));
                refused(-2, x -> x.leaves(what));
                refused(-2, x -> x.loans(what));
            }
            for (int what : new int[] {-1, 3, 4, MIN, MAX}) {
                refused(-2, x -> x.crowd(what));
            }
        });
        test("bestCell: -1; -2", () -> {
            for (int one : NOT_ONE) {
                refused(-1, x -> x.bestCell(one, 0));
                refused(-1, x -> x.bestCell(one, 3));
            }
            for (int what : new int[] {-1, 3, 4, MIN, MAX}) {
                refused(-2, x -> x.bestCell(2, what));
            }
        });
        test("newcomer: -1; -2", () -> {
            for (int cell : NOT_A_CELL) {
                refused(FAR + 1, x -> x.newcomer(cell, 0));
                refused(FAR + 1, x -> x.newcomer(cell, 2));
                refused(FAR + 1, crowded(), crowded(), x -> x.newcomer(cell, 0));
            }
            for (int what : new int[] {-1, 2, 3, MIN, MAX}) {
                refused(FAR + 2, x -> x.newcomer(35, what));
                refused(FAR + 2, crowded(), crowded(), x -> x.newcomer(0, what));
            }
        });
        test("help: -4; -6; -2", () -> {
            for (int d : BELOW_0) {
                refused(-4, x -> x.help(d, 0));
                refused(-4, x -> x.help(d, 2));
            }
            for (int d : new int[] {11, 12, MAX}) {
                refused(-6, x -> x.help(d, 1));
                refused(-6, x -> x.help(d, -1));
            }
            for (int what : new int[] {-1, 2, 3, MIN, MAX}) {
                refused(-2, x -> x.help(0, what));
                refused(-2, x -> x.help(10, what));
            }
        });
        test("quarrel: -1; -4; -6; -2", RefusalsTest::refusalsOfQuarrel);
        test("easter: -1; -4; -6", () -> {
            for (int one : NOT_ONE) {
                for (int n : new int[] {-1, 0, 100}) {
                    refused(-1, x -> x.easter(one, 0, n));
                    refused(-1, x -> x.easter(0, one, n));
                    refused(-1, x -> x.easter(2, 2, n));
                }
            }
            for (int n : BELOW_0) {
                refused(-4, x -> x.easter(0, 1, n));
            }
            for (int n : new int[] {100, 101, MAX}) {
                refused(-6, x -> x.easter(0, 1, n));
            }
        });
    }

    private static AloneIsAQuantity crowded() {
        AloneIsAQuantity x = some();
        x.moor();
        Asked.tell(x, "pp00000;pp00000;");
        Asked.letters(x, "d01;");
        return x;
    }

    private static void refusalsOfQuarrel() {
        for (int one : NOT_ONE) {
            for (int k : new int[] {0, 1, 11}) {
                refused(FAR + 1, x -> x.quarrel(one, 0, k, 0));
                refused(FAR + 1, x -> x.quarrel(0, one, k, 2));
                refused(FAR + 1, x -> x.quarrel(1, 1, k, 2));
            }
        }
        for (int k : BELOW_1) {
            refused(FAR + 4, x -> x.quarrel(0, 1, k, 0));
            refused(FAR + 4, x -> x.quarrel(0, 1, k, 2));
        }
        for (int k : new int[] {11, 12, MAX}) {
            refused(FAR + 6, x -> x.quarrel(0, 1, k, 1));
            refused(FAR + 6, x -> x.quarrel(0, 1, k, -1));
        }
        for (int what : new int[] {-1, 2, 3, MIN, MAX}) {
            refused(FAR + 2, x -> x.quarrel(0, 1, 1, what));
            refused(FAR + 2, x -> x.quarrel(2, 1, 10, what));
        }
    }

    private static void refusalsOfRowsAndImages() {
        test("whatIs: -1; -2; -3", () -> {
            for (int one : NOT_ONE) {
                refused(-1, x -> x.whatIs(one, 0));
                refused(-1, x -> x.whatIs(one, 2));
            }
            // The ROW has two numbers, and there are three PEOPLE.
            for (int what : new int[] {-1, 2, 3, MIN, MAX}) {
                refused(-2, x -> x.whatIs(0, what));
            }
            refused(-3, x -> x.whatIs(0, 0));
            refused(-3, x -> x.whatIs(2, 1));
            refused(-2, some(3), some(3), x -> x.whatIs(0, 2));
            refused(-3, some(4), some(4), x -> x.whatIs(0, 0));
            refused(-3, some(0), some(0), x -> x.whatIs(0, 0));
            due(0, some(3).whatIs(0, 0));
        });
        test("row: -4; -6", () -> {
            for (int v : BELOW_0) {
                refused(-4, x -> x.row(v));
                refused(-4, some(12), some(12), x -> x.row(v));
            }
            for (int v : new int[] {100, 101, MAX}) {
                refused(-6, x -> x.row(v));
                refused(-6, some(12), some(12), x -> x.row(v));
            }
            refused(-6, some(12), some(12), x -> x.row(0));
            due(12, some(11).row(0));
        });
        test("lots: -4; -6; -2; -3", () -> {
            for (int n : BELOW_1) {
                refused(-4, x -> x.lots(n, 0, 0));
                refused(-4, x -> x.lots(n, 0, 2));
                refused(-4, nobody(), nobody(), x -> x.lots(n, 0, 2));
            }
            for (int n : new int[] {21, 22, MAX}) {
                refused(-6, x -> x.lots(n, 0, 0));
                refused(-6, x -> x.lots(n, 0, -1));
                refused(-6, nobody(), nobody(), x -> x.lots(n, 0, 2));
            }
            for (int what : new int[] {-1, 2, 3, MIN, MAX}) {
                refused(-2, x -> x.lots(1, 0, what));
                refused(-2, x -> x.lots(20, MIN, what));
                refused(-2, nobody(), nobody(), x -> x.lots(1, 0, what));
            }
            refused(-3, nobody(), nobody(), x -> x.lots(1, 0, 0));
            refused(-3, nobody(), nobody(), x -> x.lots(20, MAX, 1));
        });
        test("on: -3", () -> {
            AloneIsAQuantity x = new AloneIsAQuantity();
            due(-3, x.on());
            due(-3, x.on());
            Asked.same("0 0 2 0 0 0 ", Asked.refusals(x));
            x.image();
            due(0, x.on());
            Asked.same("0 0 2 0 0 0 ", Asked.refusals(x));
        });
    }

    private static AloneIsAQuantity some(int inTheRow) {
        AloneIsAQuantity x = some();
        x.clear();
        for (int i = 0; i < inTheRow; i++) {
            x.row(i);
        }
        return x;
    }

    private static AloneIsAQuantity nobody() {
        AloneIsAQuantity x = new AloneIsAQuantity();
        x.image();
        x.sum(9);
        x.row(7);
        Asked.letters(x, "pw41199;");
        return x;
    }

    // ---- who only asks

    private static void askingChangesNothing() {
        for (Asked.Call call : ASKING) {
            AloneIsAQuantity x = some();
            AloneIsAQuantity twin = some();
            int first = call.of(x);
            due(first, call.of(x));
            Asked.same("0 0 0 0 0 0 ", Asked.refusals(x));
            alike(twin, x);
        }
        for (int what = 0; what < 2; what++) {
            AloneIsAQuantity x = some(3);
            x.whatIs(1, what);
            Asked.same("0 0 0 0 0 0 ", Asked.refusals(x));
            alike(some(3), x);
        }
    }

    /** Each call behind a change, and behind another thought, answers as on a moor that is told so anew. */
    private static void thoughtOfNow() {
        for (Asked.Call call : ASKING) {
            AloneIsAQuantity x = Asked.moorOf("pp00001;ps13502;pw21403;po30504;");
            x.survey(0);
            x.go(0, 2);
            x.go(1, 20);
            x.go(2, 9);
            due(call.of(Asked.moorOf("pp00201;ps12002;pw20903;po30504;")), call.of(x));
            x.behind(0, 99, 0);
            x.sum(99);
            due(call.of(Asked.moorOf("pp00201;ps12002;pw20903;po30504;s099;")), call.of(x));
            x.lots(3, 5, 0);
            x.need(0, 45);
            x.need(1, 55);
            x.keep(0, 70);
            x.keep(2, 9990);
            String told = "pp00245;ps12055;pw20903;po30504;s099;k00070;k29990;";
            due(call.of(Asked.moorOf(told)), call.of(x));
            x.takes(0, 1);
            x.lend(1, 2, 20);
            x.lend(3, 1, 35);
            due(call.of(Asked.moorOf(told + "l1220;l3135;")), call.of(x));
            x.two(0, 1);
            x.image();
            x.sum(200);
            x.go(0, 35);
            x.on();
            due(call.of(Asked.moorOf(told + "l1220;l3135;")), call.of(x));
            // A FAULT leaves nothing behind, neither in thought.
            Asked.tell(x, "pp00000;a035;s999;l0199;d60;d00;");
            due(call.of(Asked.moorOf(told + "l1220;l3135;")), call.of(x));
        }
    }

    private static void nobodyIsThere() {
        AloneIsAQuantity x = new AloneIsAQuantity();
        due(-1, x.person(0, 0));
        due(FAR + 1, x.owns(0));
        due(-1, x.loan(0, 1));
        due(-1, x.go(0, 0));
        due(-1, x.lend(0, 1, 0));
        due(-1, x.keep(0, 0));
        due(-1, x.need(0, 0));
        due(-1, x.behind(0, 0, 0));
        due(-1, x.lasts(0));
        due(-1, x.bestCell(0, 0));
        due(FAR + 1, x.takes(0, 1));
        due(-1, x.worst(0));
        due(FAR + 1, x.net(0));
        due(FAR + 1, x.quarrel(0, 1, 1, 0));
        due(-1, x.two(0, 1));
        due(-1, x.easter(0, 1, 0));
        due(-1, x.whatIs(0, 0));
        due(-1, x.judge(0));
        due(18, x.count(11));
        due(-3, x.lots(1, 0, 0));
        due(-3, x.on());
        Asked.same("18 0 2 0 0 0 ", Asked.refusals(x));
        due(360, x.sum(360));
        due(0, x.days(60));
        due(-9, x.firstShort(0));
        due(-9, x.firstShort(1));
        due(360, x.newcomer(0, 0));
        due(0, x.newcomer(0, 1));
        due(-9, x.leaves(0));
        due(-9, x.leaves(1));
        due(0, x.enough());
        due(0, x.help(0, 0));
        due(1, x.help(10, 1));
        due(0, x.loans(0));
        due(0, x.loans(1));
        due(0, x.survey(35));
        due(0, x.bestSurvey());
        due(-9, x.crowd(0));
        due(-9, x.crowd(1));
        due(-9, x.crowd(2));
        due(0, x.raise());
        due(0, x.clear());
        due(60, x.image());
        due(60, x.on());
        Asked.same("18 0 2 0 0 0 ", Asked.refusals(x));
    }

    // ---- THE IMAGE

    private static void image() {
        Asked.test("THE IMAGE: all that there is; ON from it all is as then", () -> {
            AloneIsAQuantity x = Asked.moorOf("pp01020;ps52030;pc33540;l0105;l2199;k00100;s300;d02;");
            String then = Asked.state(x);
            due(2, x.image());
            Asked.tell(x, "pn90099;a035;l0100;l1077;k19999;s999;d60;");
            x.lend(3, 0, 50);
            due(62, x.count(1));
            due(2, x.on());
            Asked.same(then, Asked.state(x));
            // Who comes anew has no LOANS of those who came before him.
            Asked.tell(x, "pn90099;");
            for (int other = 0; other < 3; other++) {
                due(0, x.loan(3, other));
                due(0, x.loan(other, 3));
            }
            due(0, x.net(3));
            due(2, x.on());
            Asked.same(then, Asked.state(x));
        });
        Asked.test("THE IMAGE: but it, the ROW, letters, REFUSALS", () -> {
            AloneIsAQuantity x = Asked.moorOf("pp01020;");
            x.row(9);
            x.letter('d');
            x.sum(-1);
            x.image();
            x.row(8);
            x.letter('0');
            x.sum(-1);
            x.sum(1);
            x.on();
            due(360, x.count(2));
            due(2, x.count(6));
            due(2, x.count(7));
            due(2, x.count(14));
            x.letter('1');
            x.letter(';');
            due(1, x.moor());
            // As it was told: 9 is not KEPT.
            due(0, x.judge(0));
            x.clear();
            x.on();
            due(0, x.count(6));
            due(0, x.count(7));
        });
        Asked.test("THE IMAGE stays when ON is called, and the next one stands in its place", () -> {
            AloneIsAQuantity x = Asked.moorOf("pp01020;");
            due(0, x.image());
            x.days(3);
            due(0, x.on());
            x.days(5);
            due(0, x.on());
            x.days(7);
            due(7, x.image());
            x.days(1);
            due(7, x.on());
            due(7, x.on());
            due(7, x.count(1));
            // What is changed behind ON does not change it.
            x.go(0, 35);
            x.need(0, 99);
            due(7, x.on());
            due(10, x.person(0, 2));
            due(20, x.person(0, 3));
        });
        Asked.test("ON: DAY. -3 there is none", () -> {
            AloneIsAQuantity x = Asked.onDay(999);
            due(-3, x.on());
            due(999, x.image());
            due(999, x.on());
            AloneIsAQuantity y = new AloneIsAQuantity();
            due(0, y.image());
            Asked.tell(y, "pp00000;pp00000;");
            due(0, y.on());
            due(0, y.count(0));
            due(-1, y.person(0, 0));
        });
    }
}
