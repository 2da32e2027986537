/** Each promise by its number: answers worked out by hand from the document. */
public final class PromisesTest {
    private static final int FAR = 1000000000;
    /** A PERSON in CELL 0 and a SHEPHERD (5) in CELL 5: WEIGHTS 5 and 10, SHARES 120 and 240, NEED 10 each. */
    private static final String PAIR = "pp00010;ps50510;";
    /** One of each KIND: WEIGHTS 21 30 38 9 48 11. */
    private static final String SIX = "pp00000;ps30300;pw00600;pc01200;po43500;pn13000;";
    private static final String THREE = "pp00000;ps90000;pn93500;";

    private static int promise;
    private static int asked = 0;
    private static int wrong = 0;

    private PromisesTest() {
    }

    private static void due(int want, int got) {
        asked++;
        if (want != got) {
            wrong++;
            StackTraceElement at = new Throwable().getStackTrace()[1];
            System.out.println("promise " + promise + ", line " + at.getLineNumber() + ": " + got + ", due is " + want);
        }
    }

    private static int tell(AloneIsAQuantity x, String text) {
        for (int i = 0; i < text.length(); i++) {
            x.letter(text.charAt(i));
        }
        return x.moor();
    }

    private static AloneIsAQuantity moorOf(String text) {
        AloneIsAQuantity x = new AloneIsAQuantity();
        if (tell(x, text) < 0) {
            due(0, -1);
        }
        return x;
    }

    private static int told(String text) {
        return tell(new AloneIsAQuantity(), text);
    }

    private static int toldToPair(String text) {
        return tell(moorOf(PAIR), text);
    }

    public static void main(String[] args) {
        promises1To3();
        promises4To6();
        promises7To11();
        promise12();
        promises13To15();
        promises16To20();
        promises21To24();
        promises25To28();
        promises29To31();
        promises32To35();
        promises36To38();
        promise39();
        System.out.println("PromisesTest: " + asked + " answers, " + wrong + " wrong");
        if (wrong > 0) {
            System.exit(1);
        }
    }

    private static void promises1To3() {
        promise = 1;
        AloneIsAQuantity x = new AloneIsAQuantity();
        due(0, x.count(0));
        due(0, x.count(1));
        due(360, x.count(2));
        for (int what = 3; what <= 7; what++) {
            due(0, x.count(what));
        }
        for (int what = 11; what <= 16; what++) {
            due(0, x.count(what));
        }
        due(-1, x.person(0, 0));
        due(-3, x.on());

        promise = 2;
        x = new AloneIsAQuantity();
        due(1, x.letter(0));
        due(2, x.letter(255));
        due(-4, x.letter(-1));
        due(-4, x.letter(Integer.MIN_VALUE));
        due(-6, x.letter(256));
        due(-6, x.letter(Integer.MAX_VALUE));
        due(2, x.count(7));
        for (int i = 3; i <= 96; i++) {
            due(i, x.letter('a'));
        }
        due(-6, x.letter('a'));
        due(-4, x.letter(-1));
        due(96, x.count(7));
        due(-1000, x.moor());
        due(1, x.letter('a'));

        promise = 3;
        faultsOfTheFirstKind();
        faultsOfTheSecondKind();
        textsThatCome();
    }

    private static void faultsOfTheFirstKind() {
        due(-1000, told(""));
        due(-1000, told("x"));
        due(-1000, told(";"));
        due(-1000, told("P"));
        due(-1001, told("p"));
        due(-1001, told("px"));
        due(-1001, told("p;"));
        due(-1002, told("ppp00000;"));
        due(-1003, told("pp0"));
        due(-1006, told("pp0000;"));
        due(-1007, told("pp00000"));
        due(-1007, told("pp000000;"));
        due(-1008, told("pp00000;;"));
        due(-1008, told("pp00000; a000;"));
        due(-1003, told("a00;"));
        due(-1004, told("l010;"));
        due(-1005, told("k0000;"));
        due(-1003, told("s36;"));
        due(-1004, told("s3600;"));
        due(-1002, told("d1;"));
        due(-1003, told("d011;"));
        due(-1001, told("s/00;"));
        due(-1001, told("s:00;"));
        // A letter that no moor goes on with is told before a statement that is not as it must be.
        due(-1012, told("a000;s360;d0x;"));
        AloneIsAQuantity x = moorOf(PAIR);
        due(-1005, tell(x, "s100;x"));
        due(360, x.count(2));
        due(0, x.count(7));
        for (int what = 11; what <= 16; what++) {
            due(0, x.count(what));
        }
    }

    private static void faultsOfTheSecondKind() {
        due(-2000, told("pp03600;"));
        due(-2000, told("pp09900;"));
        due(-2000, told("a000;"));
        due(-2000, told("k00000;"));
        due(-2000, told("l0100;"));
        due(-2000, toldToPair("a200;"));
        due(-2000, toldToPair("a036;"));
        due(-2000, toldToPair("l0000;"));
        due(-2000, toldToPair("l0200;"));
        due(-2000, toldToPair("l2000;"));
        due(-2000, toldToPair("k20000;"));
        due(-2000, toldToPair("d00;"));
        due(-2000, toldToPair("d61;"));
        due(-2005, toldToPair("s100;d61;"));
        due(-2008, told("pp00000;l0100;"));
        due(-2048, told(SIX + "pp00000;"));
        // Days that go by in the text count: 16 times 60 is 960, 39 more are 999.
        String long960 = "d60;d60;d60;d60;d60;d60;d60;d60;d60;d60;d60;d60;d60;d60;d60;d60;";
        AloneIsAQuantity x = new AloneIsAQuantity();
        due(-2064, tell(x, long960 + "d40;"));
        due(0, x.count(1));
        due(17, tell(x, long960 + "d39;"));
        due(999, x.count(1));
        due(-2000, tell(x, "d01;"));
        // What stands before the fault does not come either.
        x = moorOf(PAIR);
        due(-2024, tell(x, "pp00000;a009;k00123;d01;a909;"));
        due(2, x.count(0));
        due(0, x.person(0, 2));
        due(0, x.person(0, 4));
        due(0, x.count(1));
        due(0, x.count(7));
    }

    private static void textsThatCome() {
        AloneIsAQuantity x = new AloneIsAQuantity();
        due(1, tell(x, "pp93599;"));
        due(9, x.person(0, 1));
        due(35, x.person(0, 2));
        due(99, x.person(0, 3));
        due(5, tell(x, "ps00000;a101;l1099;k19999;s999;"));
        due(1, x.person(1, 2));
        due(99, x.loan(1, 0));
        due(0, x.loan(0, 1));
        due(9999, x.person(1, 4));
        due(999, x.count(2));
        // LENT becomes the number told; it is not added.
        due(1, tell(x, "l1001;"));
        due(1, x.loan(1, 0));
        // Days go by between the statements, with what is then: 120 and 240 a day, then 0.
        x = moorOf(PAIR);
        due(3, tell(x, "d02;s000;d01;"));
        due(3, x.count(1));
        due(210, x.person(0, 4));
        due(450, x.person(1, 4));
        due(0, x.count(7));
        due(4, told("pp00000;pp00000;l0100;l0199;"));
    }

    private static void promises4To6() {
        promise = 4;
        AloneIsAQuantity x = moorOf(SIX);
        int[] weights = {21, 30, 38, 9, 48, 11};
        int[] shares = {49, 69, 87, 20, 110, 25};
        int[] figures = {0, 3, 0, 0, 4, 1};
        int[] cells = {0, 3, 6, 12, 35, 30};
        for (int i = 0; i < 6; i++) {
            due(i, x.person(i, 0));
            due(figures[i], x.person(i, 1));
            due(cells[i], x.person(i, 2));
            due(0, x.person(i, 3));
            due(0, x.person(i, 4));
            due(weights[i], x.person(i, 5));
            due(shares[i], x.person(i, 6));
        }
        due(-1, x.person(-1, 0));
        due(-1, x.person(6, 9));
        due(-2, x.person(0, 7));
        due(-2, x.person(5, -1));
        // Alone, a PERSON weighs 1, and what is over him at least that.
        String[] alone = {"pp90000;", "ps00000;", "pw00000;", "pc00000;", "po00000;", "pn90000;", "po50000;"};
        int[] weighs = {1, 1, 2, 1, 6, 1, 11};
        for (int i = 0; i < alone.length; i++) {
            due(weighs[i], moorOf(alone[i]).person(0, 5));
            due(360, moorOf(alone[i]).person(0, 6));
        }
        // A POET: somebody 2 STEPS from him is nearer than 3, one 3 STEPS from him is not.
        due(2, moorOf("po00000;pp00200;").person(0, 5));
        due(8, moorOf("po00000;pp00300;").person(0, 5));
        // SUM 0 is shared too.
        x = moorOf(PAIR + "s000;");
        due(0, x.person(0, 6));
        due(0, x.person(1, 6));

        promise = 5;
        x = moorOf(PAIR + "l0130;");
        due(90, x.owns(0));
        due(270, x.owns(1));
        x.sum(0);
        due(-30, x.owns(0));
        due(30, x.owns(1));
        due(FAR + 1, x.owns(2));
        due(FAR + 1, x.owns(-1));
        due(2, x.count(11));

        promise = 6;
        due(30, x.loan(0, 1));
        due(0, x.loan(1, 0));
        due(-1, x.loan(0, 0));
        due(-1, x.loan(0, 2));
        due(-1, x.loan(-1, 0));
    }

    private static void promises7To11() {
        promise = 7;
        AloneIsAQuantity x = moorOf(PAIR);
        due(0, x.go(0, 35));
        due(35, x.go(0, 5));
        due(1, x.person(0, 5));
        due(6, x.person(1, 5));
        due(52, x.person(0, 6));
        due(-1, x.go(2, 0));
        due(-1, x.go(0, 36));
        due(-1, x.go(0, -1));
        due(5, x.person(0, 2));

        promise = 8;
        due(0, x.lend(0, 1, 99));
        due(99, x.lend(0, 1, 7));
        due(7, x.loan(0, 1));
        due(-1, x.lend(0, 0, -1));
        due(-1, x.lend(0, 2, 100));
        due(-4, x.lend(0, 1, -1));
        due(-6, x.lend(0, 1, 100));
        due(7, x.lend(0, 1, 0));

        promise = 9;
        due(0, x.keep(1, 9999));
        due(9999, x.keep(1, 0));
        due(-1, x.keep(2, -1));
        due(-4, x.keep(1, -1));
        due(-6, x.keep(1, 10000));
        due(0, x.person(1, 4));

        promise = 10;
        due(10, x.need(1, 99));
        due(99, x.need(1, 0));
        due(-1, x.need(-1, 0));
        due(-4, x.need(1, -1));
        due(-6, x.need(1, 100));
        due(0, x.person(1, 3));

        promise = 11;
        due(360, x.sum(999));
        due(999, x.sum(0));
        due(-4, x.sum(-1));
        due(-6, x.sum(1000));
        due(0, x.sum(90));
        due(90, x.count(2));
    }

    private static void promise12() {
        promise = 12;
        // SHARES 30 and 60; the first needs 50 and has 30 kept: one day it is enough, the next it is not.
        String poor = PAIR + "s090;k00030;k19980;";
        AloneIsAQuantity x = moorOf(poor);
        x.need(0, 50);
        due(0, x.days(1));
        due(10, x.person(0, 4));
        due(9999, x.person(1, 4));
        due(1, x.days(1));
        due(0, x.person(0, 4));
        due(2, x.count(1));
        x.keep(0, 20);
        due(0, x.days(1));
        due(0, x.person(0, 4));
        x.keep(0, 60);
        due(0, x.days(3));
        x.sum(0);
        x.keep(1, 5);
        due(2, x.days(2));
        due(-4, x.days(0));
        due(-4, x.days(-7));
        due(-6, x.days(61));
        due(-6, x.days(Integer.MAX_VALUE));
        x = new AloneIsAQuantity();
        for (int i = 0; i < 16; i++) {
            due(0, x.days(60));
        }
        due(-6, x.days(40));
        due(960, x.count(1));
        due(0, x.days(39));
        due(-6, x.days(1));
        due(999, x.count(1));
    }

    private static void promises13To15() {
        promise = 13;
        AloneIsAQuantity x = moorOf(PAIR + "s090;k00030;");
        x.need(0, 50);
        int[] kept = {30, 10, 0, 0};
        int[] shorts = {0, 0, 1, 2};
        for (int n = 0; n < 4; n++) {
            due(kept[n], x.behind(0, n, 0));
            due(shorts[n], x.behind(0, n, 1));
        }
        due(98, x.behind(0, 99, 1));
        due(4950, x.behind(1, 99, 0));
        due(30, x.person(0, 4));
        due(0, x.count(1));
        due(-1, x.behind(2, -1, 9));
        due(-4, x.behind(0, -1, 9));
        due(-6, x.behind(0, 100, 9));
        due(-2, x.behind(0, 99, 2));
        due(-2, x.behind(0, 0, -1));

        promise = 14;
        due(2, x.firstShort(0));
        due(0, x.firstShort(1));
        due(-2, x.firstShort(2));
        due(-2, x.firstShort(-1));
        x.days(10);
        // From now, whatever DAY it is; and of several the least.
        due(1, x.firstShort(0));
        x.sum(0);
        x.keep(0, 9999);
        x.keep(1, 9999);
        x.need(0, 99);
        x.need(1, 99);
        due(-9, x.firstShort(0));
        due(-9, x.firstShort(1));
        x.keep(1, 980);
        x.keep(0, 980);
        due(10, x.firstShort(0));
        due(0, x.firstShort(1));
        x.keep(1, 979 - 98);
        due(9, x.firstShort(0));
        due(1, x.firstShort(1));
        // In thought DAY may pass 999.
        AloneIsAQuantity y = moorOf("pp00050;");
        for (int i = 0; i < 16; i++) {
            y.days(60);
        }
        y.days(39);
        y.sum(0);
        y.keep(0, 4900);
        due(99, y.firstShort(0));
        due(0, y.firstShort(1));
        due(98, y.lasts(0));
        due(0, y.behind(0, 99, 0));
        due(1, y.behind(0, 99, 1));

        promise = 15;
        due(9, x.lasts(0));
        due(8, x.lasts(1));
        y.keep(0, 4950);
        due(99, y.lasts(0));
        y.keep(0, 0);
        due(0, y.lasts(0));
        due(-1, y.lasts(1));
    }

    private static void promises16To20() {
        promise = 16;
        AloneIsAQuantity x = moorOf(PAIR);
        due(30, x.bestCell(0, 0));
        due(144, x.bestCell(0, 1));
        // A STEP beside the other is as good for him as in his CELL: 4 is less than 5.
        due(4, x.bestCell(0, 2));
        due(0, x.bestCell(1, 0));
        due(308, x.bestCell(1, 1));
        due(35, x.bestCell(1, 2));
        due(5, x.person(1, 2));
        due(-1, x.bestCell(2, 9));
        due(-2, x.bestCell(0, 3));
        due(-2, x.bestCell(0, -1));
        AloneIsAQuantity alone = moorOf("pp02000;");
        due(0, alone.bestCell(0, 0));
        due(360, alone.bestCell(0, 1));
        due(0, alone.bestCell(0, 2));

        promise = 17;
        due(120, x.takes(0, 1));
        due(240, x.takes(1, 0));
        due(FAR + 1, x.takes(0, 0));
        due(FAR + 1, x.takes(0, 2));
        due(FAR + 1, x.takes(-1, 0));
        due(4, x.count(11));
        // Far from the others, one may give more than he takes.
        AloneIsAQuantity three = moorOf(THREE);
        due(-87, three.takes(2, 0));
        due(208, three.takes(1, 0));

        promise = 18;
        due(1, three.worst(0));
        due(-9, alone.worst(0));
        due(-1, alone.worst(1));
        due(1, moorOf("pp00000;pp00000;pp00000;").worst(0));
        due(0, moorOf("pp00000;pp00000;pp00000;").worst(2));
        // Also when nobody takes anything.
        due(1, moorOf(PAIR + "s000;").worst(0));

        promise = 19;
        due(72, x.newcomer(0, 0));
        due(72, x.newcomer(0, 1));
        due(2, x.count(0));
        due(FAR + 1, x.newcomer(36, 9));
        due(FAR + 1, x.newcomer(-1, 0));
        due(FAR + 2, x.newcomer(0, 2));
        due(FAR + 2, x.newcomer(35, -1));
        AloneIsAQuantity six = moorOf(SIX);
        due(-9, six.newcomer(0, 0));
        due(-9, six.newcomer(0, 1));
        due(FAR + 1, six.newcomer(36, 0));
        due(360, new AloneIsAQuantity().newcomer(35, 0));
        due(0, new AloneIsAQuantity().newcomer(35, 1));

        promise = 20;
        due(0, x.leaves(0));
        due(1, x.leaves(1));
        due(-2, x.leaves(2));
        due(-2, x.leaves(-1));
        due(-9, new AloneIsAQuantity().leaves(0));
        due(-9, new AloneIsAQuantity().leaves(1));
        due(0, alone.leaves(0));
        due(0, alone.leaves(1));
        // With 50 borrowed from the first, the second HAS 90; without him 60.
        AloneIsAQuantity lent = moorOf(PAIR + "s060;l0150;");
        due(1, lent.leaves(0));
        due(1, lent.leaves(1));
        // The loan between the two who stay is as it was.
        AloneIsAQuantity stay = moorOf("pp00000;pp00000;pp00000;l1299;");
        due(0, stay.leaves(0));
        due(2, stay.leaves(1));
    }

    private static void promises21To24() {
        promise = 21;
        AloneIsAQuantity x = moorOf(PAIR);
        due(3, x.enough());
        x.sum(90);
        x.need(0, 31);
        x.need(1, 60);
        due(2, x.enough());
        x.need(0, 30);
        due(3, x.enough());
        x.lend(1, 0, 1);
        due(1, x.enough());
        due(0, new AloneIsAQuantity().enough());

        promise = 22;
        // One lacks 20, the other one, 5 STEPS from him, has 40 too much.
        x = moorOf(PAIR + "s090;");
        x.need(0, 50);
        x.need(1, 20);
        due(0, x.help(4, 0));
        due(0, x.help(4, 1));
        due(20, x.help(5, 0));
        due(1, x.help(5, 1));
        x.need(1, 45);
        due(15, x.help(10, 0));
        due(0, x.help(10, 1));
        due(-4, x.help(-1, 9));
        due(-6, x.help(11, 9));
        due(-2, x.help(0, 2));
        due(-2, x.help(10, -1));
        due(0, new AloneIsAQuantity().help(0, 0));
        due(1, new AloneIsAQuantity().help(0, 1));
        // Each HAS 50: 30 and 10 too much, 10 and 30 too little.
        AloneIsAQuantity four = moorOf("pp00020;pp00040;pp00060;pp00080;s200;");
        due(40, four.help(0, 0));
        due(1, four.help(0, 1));
        four.need(3, 81);
        due(40, four.help(0, 0));
        due(0, four.help(0, 1));
        // 0 and 1 HAVE 10 too much, 2 and 3 lack 10: if 1 gives to 2, nobody is near enough to 3.
        four = moorOf("pp00000;pp00200;pp00100;pp00300;s000;l2010;l3110;");
        due(0, four.help(0, 0));
        due(20, four.help(1, 0));
        due(1, four.help(1, 1));

        promise = 23;
        x = moorOf(PAIR + "l0130;l1010;");
        due(20, x.net(0));
        due(-20, x.net(1));
        due(FAR + 1, x.net(2));
        due(FAR + 1, x.net(-1));

        promise = 24;
        due(2, x.loans(0));
        due(1, x.loans(1));
        due(-2, x.loans(2));
        due(-2, x.loans(-1));
        due(0, new AloneIsAQuantity().loans(0));
        due(0, new AloneIsAQuantity().loans(1));
        AloneIsAQuantity six = moorOf(SIX + "l0110;l1210;l2010;");
        due(3, six.loans(0));
        due(0, six.loans(1));
        // NETS 6 4 -3 -3 -4: 6 with -3 and -3, 4 with -4; the greatest with the greatest were 4 loans.
        six = moorOf(SIX + "l0404;l0202;l1201;l1303;");
        due(4, six.loans(0));
        due(3, six.loans(1));
    }

    private static void promises25To28() {
        promise = 25;
        AloneIsAQuantity x = moorOf(PAIR);
        due(288, x.survey(0));
        due(-1, x.survey(36));
        due(-1, x.survey(-1));
        due(2, x.count(0));
        due(0, new AloneIsAQuantity().survey(35));
        // To six he comes too: he weighs 21 in CELL 0, the others 21 33 40 10 58 14 then.
        AloneIsAQuantity six = moorOf(SIX);
        due(322, six.survey(0));

        promise = 26;
        due(0, x.bestSurvey());
        due(0, new AloneIsAQuantity().bestSurvey());
        // Beside the SHEPHERD and with him the surveyor weighs 1, the SHEPHERD 6.
        due(14, moorOf("ps52000;").bestSurvey());
        due(309, moorOf("ps52000;").survey(14));

        promise = 27;
        due(6, x.quarrel(0, 1, 5, 0));
        due(8, x.quarrel(0, 1, 5, 1));
        due(11, x.quarrel(1, 0, 5, 0));
        due(-8, x.quarrel(1, 0, 5, 1));
        due(0, x.quarrel(0, 1, 4, 0));
        due(0, x.quarrel(0, 1, 4, 1));
        due(30, x.quarrel(0, 1, 9, 0));
        due(-9, x.quarrel(0, 1, 10, 0));
        due(-9, x.quarrel(0, 1, 10, 1));
        due(0, x.person(0, 2));
        due(FAR + 1, x.quarrel(0, 0, 0, 9));
        due(FAR + 1, x.quarrel(0, 2, 1, 0));
        due(FAR + 1, x.quarrel(-1, 0, 1, 0));
        due(FAR + 4, x.quarrel(0, 1, 0, 9));
        due(FAR + 6, x.quarrel(0, 1, 11, 9));
        due(FAR + 2, x.quarrel(0, 1, 10, 2));
        due(FAR + 2, x.quarrel(0, 1, 1, -1));

        promise = 28;
        // The first goes down from the other, who goes left after him.
        due(42, x.two(0, 1));
        due(24, x.two(1, 0));
        due(-1, x.two(0, 0));
        due(-1, x.two(0, 2));
        due(-1, x.two(-1, 1));
        due(0, x.person(0, 2));
        due(12, moorOf("pp03000;ps53500;").two(0, 1));
        due(43, moorOf("pp00500;ps50000;").two(0, 1));
        due(22, moorOf("pp00100;ps50300;").two(0, 1));
        due(33, moorOf("pp00400;ps50200;").two(0, 1));
        due(11, moorOf("pp00600;ps51800;").two(0, 1));
        due(34, moorOf("pp02400;ps51200;").two(0, 1));
        due(0, moorOf("pp00000;pp03500;").two(0, 1));
        due(0, moorOf("pp01400;ps51400;").two(0, 1));
        // The POET wants 3 STEPS between them, the COUPLE anything else, and can have it.
        due(-9, moorOf("po81400;pc61600;").two(0, 1));
    }

    private static void promises29To31() {
        promise = 29;
        AloneIsAQuantity x = moorOf(PAIR);
        due(5, x.crowd(0));
        due(5, x.crowd(1));
        due(1, x.crowd(2));
        AloneIsAQuantity six = moorOf(SIX);
        due(1, six.crowd(0));
        due(10, six.crowd(1));
        due(2, six.crowd(2));
        six.go(2, 11);
        due(2, six.crowd(0));
        due(3, six.crowd(2));
        for (int what = 0; what < 3; what++) {
            due(-9, new AloneIsAQuantity().crowd(what));
            due(-9, moorOf("pp00000;").crowd(what));
        }
        due(-2, x.crowd(3));
        due(-2, x.crowd(-1));

        promise = 30;
        // With 28 the first has 9 and the 1 that is left over.
        due(28, x.raise());
        due(360, x.count(2));
        due(0, new AloneIsAQuantity().raise());
        due(-9, moorOf("pp00000;pn93599;").raise());
        due(990, moorOf("pp00000;pn93590;").raise());
        // A ninth less 12 LENT is 99 with 999, and not with less.
        due(999, moorOf("pp00000;pn93399;l1012;").raise());
        due(-9, moorOf("pp00000;pn93399;l1013;").raise());
        due(99, moorOf("po50099;").raise());
        x.lend(1, 0, 10);
        due(30, x.raise());

        promise = 31;
        x = moorOf(PAIR);
        int[] kept = {0, 298, 528, 758, 988, 1218, 1448, 1678, 1976, 2206};
        for (int n = 0; n < kept.length; n++) {
            due(kept[n], x.easter(0, 1, n));
        }
        due(0, x.count(1));
        due(5, x.person(1, 2));
        x.days(6);
        x.keep(1, 0);
        // DAY 7 is none of them, 8 is.
        due(230, x.easter(0, 1, 1));
        due(528, x.easter(0, 1, 2));
        // The first one's KEPT is another's to ask: with him it is the other who comes.
        due(6 * 110 + 110, x.easter(1, 0, 1));
        due(9999, x.easter(0, 1, 99));
        due(-1, x.easter(0, 0, -1));
        due(-1, x.easter(0, 2, 0));
        due(-1, x.easter(-1, 0, 0));
        due(-4, x.easter(0, 1, -1));
        due(-6, x.easter(0, 1, 100));
    }

    private static void promises32To35() {
        promise = 32;
        AloneIsAQuantity x = moorOf(PAIR + "s150;");
        due(-3, x.whatIs(0, 0));
        x.row(50);
        due(-3, x.whatIs(0, 0));
        x.row(99);
        due(3, x.whatIs(0, 0));
        due(1023, x.whatIs(0, 1));
        due(6, x.whatIs(1, 0));
        due(32, x.whatIs(1, 1));
        due(2, x.count(6));
        due(-1, x.whatIs(2, 9));
        due(-2, x.whatIs(0, 2));
        due(-2, x.whatIs(0, -1));
        x.row(0);
        due(-2, x.whatIs(0, 2));
        due(-3, x.whatIs(0, 1));
        due(0, x.person(0, 0));
        due(5, x.person(1, 1));

        promise = 33;
        x = moorOf(PAIR + "s030;");
        due(-4, x.row(-1));
        due(-6, x.row(100));
        for (int i = 1; i <= 12; i++) {
            due(i, x.row(i == 1 ? 0 : 99));
        }
        due(-6, x.row(1));
        due(-4, x.row(-1));
        due(12, x.count(6));

        promise = 34;
        due(-1, x.judge(2));
        due(-1, x.judge(-1));
        due(12, x.count(6));
        due(1, x.judge(1));
        due(0, x.count(6));
        due(-9, x.judge(1));
        // 10 a day are kept: 80, 90, 100 (told 99), 110 (told 99).
        x.keep(1, 80);
        x.row(80);
        x.row(90);
        x.row(99);
        x.row(99);
        due(-9, x.judge(1));
        due(0, x.count(6));
        due(80, x.person(1, 4));
        x.row(80);
        x.row(90);
        x.row(98);
        due(2, x.judge(1));
        x.row(79);
        due(0, x.judge(1));

        promise = 35;
        due(0, x.clear());
        x.row(1);
        x.row(2);
        due(2, x.clear());
        due(0, x.count(6));
        due(1, x.row(3));
    }

    private static void promises36To38() {
        promise = 36;
        AloneIsAQuantity x = moorOf(PAIR);
        // Draws from 0: CELLS 23 and 21, then 18 and 23.
        due(80, x.lots(1, 0, 0));
        due(2, x.lots(1, 0, 1));
        due(200, x.lots(2, 0, 0));
        x.need(0, 99);
        due(3, x.lots(2, 0, 1));
        due(0, x.person(0, 2));
        due(-4, x.lots(0, 0, 9));
        due(-6, x.lots(21, 0, 9));
        due(-2, x.lots(20, 0, 2));
        due(-2, x.lots(1, 0, -1));
        due(-2, new AloneIsAQuantity().lots(1, 0, 2));
        due(-3, new AloneIsAQuantity().lots(1, 0, 0));
        due(7200, moorOf("pp00000;").lots(20, Integer.MIN_VALUE, 0));
        due(20, moorOf("pp00000;").lots(20, Integer.MAX_VALUE, 1));

        promise = 37;
        x = moorOf(PAIR + "d03;l0130;");
        due(3, x.image());
        x.row(7);
        x.letter('p');
        x.days(4);
        x.go(0, 9);
        x.need(0, 1);
        x.sum(7);
        x.lend(0, 1, 2);
        x.keep(1, 4);
        x.days(-1);

        promise = 38;
        due(3, x.on());
        due(3, x.count(1));
        due(360, x.count(2));
        due(0, x.person(0, 2));
        due(10, x.person(0, 3));
        due(120, x.person(0, 6));
        due(30, x.loan(0, 1));
        due(690, x.person(1, 4));
        // The ROW, the letters and the REFUSALS are as they were before ON.
        due(1, x.count(6));
        due(1, x.count(7));
        due(1, x.count(14));
        x.clear();
        x.moor();
        // PEOPLE who came since are none; the image is there again and again.
        due(1, tell(x, "pp00000;"));
        due(3, x.count(0));
        due(3, x.on());
        due(2, x.count(0));
        x.lend(0, 1, 0);
        due(1, tell(x, "pp00000;"));
        due(0, x.loan(2, 0));
        due(0, x.net(2));
        due(3, x.on());
        due(30, x.net(0));
        due(-3, new AloneIsAQuantity().on());
        x = new AloneIsAQuantity();
        due(0, x.image());
        due(1, tell(x, "pp00000;"));
        due(0, x.on());
        due(0, x.count(0));
    }

    private static void promise39() {
        promise = 39;
        AloneIsAQuantity x = moorOf(SIX + "d02;k09000;s010;");
        x.need(0, 99);
        x.need(5, 98);
        x.row(1);
        x.letter('x');
        due(6, x.count(0));
        due(2, x.count(1));
        due(10, x.count(2));
        due(157, x.count(3));
        due(197, x.count(4));
        due(9000 + 2 * (69 + 87 + 20 + 110 + 25), x.count(5));
        due(1, x.count(6));
        due(1, x.count(7));
        x.go(6, 0);
        x.owns(6);
        x.crowd(9);
        x.on();
        x.sum(-1);
        x.sum(1000);
        x.quarrel(0, 1, 11, 0);
        due(2, x.count(11));
        due(1, x.count(12));
        due(1, x.count(13));
        due(1, x.count(14));
        due(0, x.count(15));
        due(2, x.count(16));
        for (int what : new int[] {-1, 8, 9, 10, 17, Integer.MIN_VALUE, Integer.MAX_VALUE}) {
            due(-9, x.count(what));
        }
        due(1, x.count(12));
    }
}
