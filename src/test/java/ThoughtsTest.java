/** "Terms", part II of the document: each sentence of what is thought has a test of its own, at its boundaries. */
public final class ThoughtsTest {
    /** A PERSON in CELL 0 and a SHEPHERD (5) in CELL 5: WEIGHTS 5 and 10, SHARES 120 and 240, NEED 10 each. */
    private static final String PAIR = "pp00010;ps50510;";
    /** PERSONS in one CELL: a third of 360 each. */
    private static final String THREE = "pp00000;pp00000;pp00000;";
    private static final String SIX = THREE + THREE;

    private ThoughtsTest() {
    }

    public static void main(String[] args) {
        daysToCome();
        otherCells();
        othersWhoComeOrLeave();
        lending();
        surveyAndQuarrel();
        two();
        crowdAndRaise();
        easter();
        rows();
        lots();
        Asked.end("ThoughtsTest");
    }

    private static void test(String what, Runnable body) {
        Asked.test(what, body);
    }

    private static void due(int want, int got) {
        Asked.due(want, got);
    }

    private static AloneIsAQuantity moorOf(String text) {
        return Asked.moorOf(text);
    }

    /** One who HAS nothing, needs 99 a DAY and has so much KEPT: 99 DAYS take 9801. */
    private static AloneIsAQuantity hungry(int kept) {
        AloneIsAQuantity x = moorOf("pp00099;s000;");
        x.keep(0, kept);
        return x;
    }

    /** Nobody HAS anything but by LOANS, nobody needs anything. */
    private static AloneIsAQuantity bare(String text) {
        return moorOf(text + "s000;");
    }

    // ---- DAYS to come

    private static void daysToCome() {
        test("in thought DAY may pass 999", ThoughtsTest::past999);
        test("n DAYS on (0 .. 99): KEPT of one (0)", () -> {
            AloneIsAQuantity x = hungry(9801);
            due(9801, x.behind(0, 0, 0));
            due(9702, x.behind(0, 1, 0));
            due(99, x.behind(0, 98, 0));
            due(0, x.behind(0, 99, 0));
            due(-6, x.behind(0, 100, 0));
            due(-4, x.behind(0, -1, 0));
            due(9801, x.person(0, 4));
            AloneIsAQuantity rich = moorOf("pp00000;s101;");
            due(9999, rich.behind(0, 99, 0));
            rich.sum(100);
            due(9900, rich.behind(0, 99, 0));
        });
        test("n DAYS on: on how many of these he was SHORT (1)", () -> {
            AloneIsAQuantity x = hungry(9702);
            due(0, x.behind(0, 0, 1));
            due(0, x.behind(0, 98, 1));
            due(1, x.behind(0, 99, 1));
            x.keep(0, 0);
            due(0, x.behind(0, 0, 1));
            due(1, x.behind(0, 1, 1));
            due(99, x.behind(0, 99, 1));
            // Each one's own: the other one is never SHORT.
            AloneIsAQuantity two = bare("pp00000;pp00000;l0110;");
            due(99, two.behind(0, 99, 1));
            due(0, two.behind(1, 99, 1));
        });
        test("FIRST SHORT: the DAY (1 .. 99 from now) on which somebody first is; -9", () -> {
            due(1, hungry(0).firstShort(0));
            due(1, hungry(98).firstShort(0));
            due(2, hungry(99).firstShort(0));
            due(99, hungry(9800).firstShort(0));
            due(-9, hungry(9801).firstShort(0));
            due(-9, hungry(9801).firstShort(1));
            due(-9, new AloneIsAQuantity().firstShort(0));
            due(-9, new AloneIsAQuantity().firstShort(1));
            AloneIsAQuantity later = hungry(9999);
            later.days(3);
            due(99, later.firstShort(0));
            later.days(1);
            due(98, later.firstShort(0));
            due(0, later.firstShort(1));
        });
        test("FIRST SHORT: who, of several the least", () -> {
            AloneIsAQuantity x = moorOf("pp00000;pp00099;pp00099;s000;");
            x.keep(1, 297);
            x.keep(2, 297);
            due(4, x.firstShort(0));
            due(1, x.firstShort(1));
            x.keep(2, 296);
            due(3, x.firstShort(0));
            due(2, x.firstShort(1));
            AloneIsAQuantity six = moorOf("pp00099;pp00099;pp00099;pp00099;pp00099;pp00099;s000;");
            due(0, six.firstShort(1));
            for (int one = 0; one < 5; one++) {
                six.keep(one, 99);
            }
            due(5, six.firstShort(1));
        });
        test("LASTS: on how many DAYS from now one is not SHORT, till he first is (99 at most)", () -> {
            due(0, hungry(98).lasts(0));
            due(1, hungry(99).lasts(0));
            due(98, hungry(9800).lasts(0));
            due(99, hungry(9801).lasts(0));
            due(99, hungry(9999).lasts(0));
            due(99, moorOf(PAIR).lasts(1));
            AloneIsAQuantity two = bare("pp00000;pp00000;l0110;");
            due(0, two.lasts(0));
            due(99, two.lasts(1));
        });
    }

    private static void past999() {
        AloneIsAQuantity x = hungry(0);
        Asked.passTo(x, 999);
        x.keep(0, 9800);
        due(98, x.behind(0, 98, 0));
        due(0, x.behind(0, 98, 1));
        due(1, x.behind(0, 99, 1));
        due(99, x.firstShort(0));
        due(98, x.lasts(0));
        due(999, x.count(1));
        // DAYS 1000, 1001, 1002: the last one is the first of 7, and the two are in one CELL then.
        AloneIsAQuantity pair = moorOf(PAIR);
        Asked.passTo(pair, 999);
        pair.keep(1, 0);
        due(230, pair.easter(0, 1, 1));
        due(460, pair.easter(0, 1, 2));
        due(758, pair.easter(0, 1, 3));
        due(988, pair.easter(0, 1, 4));
    }

    // ---- other CELLS

    private static void otherCells() {
        test("BEST CELL: in which his SHARE is greatest, of several the least; that SHARE", () -> {
            // Between two corners each CELL is as far from both together: all 36 are as good.
            AloneIsAQuantity all = moorOf("pp01400;pp00000;pp03500;");
            due(0, all.bestCell(0, 0));
            due(90, all.bestCell(0, 1));
            due(14, all.person(0, 2));
            // Two PERSONS weigh the same, however far they are.
            due(0, moorOf("pp01400;pp00000;").bestCell(0, 0));
            due(180, moorOf("pp01400;pp00000;").bestCell(0, 1));
            // One CELL alone is best: the first, the last, others.
            due(0, moorOf("pp01400;ps93500;").bestCell(0, 0));
            due(35, moorOf("pp01400;ps90000;").bestCell(0, 0));
            due(5, moorOf("pp01400;ps93000;").bestCell(0, 0));
            due(30, moorOf("pp01400;ps90500;").bestCell(0, 0));
            due(125, moorOf("pp01400;ps90500;").bestCell(0, 1));
            due(0, moorOf("pp03500;").bestCell(0, 0));
            due(360, moorOf("pp03500;").bestCell(0, 1));
            due(0, moorOf(PAIR + "s000;").bestCell(1, 0));
            due(0, moorOf(PAIR + "s000;").bestCell(1, 1));
        });
        test("BEST CELL, KIND CELL: a SHARE of 1 is greater than one of 0", () -> {
            // A WIDOW 9 STEPS from the SHEPHERD weighs 18 as he does, nearer she weighs less than half of all.
            AloneIsAQuantity x = moorOf("ps90000;pw00000;s002;");
            due(29, x.bestCell(1, 0));
            due(1, x.bestCell(1, 1));
            due(29, x.bestCell(0, 2));
        });
        test("KIND CELL: in which the least SHARE of all others is greatest, of several the least", () -> {
            // 5 STEPS from both corners: 5, 10, 15, 20, 25 and 30.
            due(5, moorOf("pp01400;pp00000;pp03500;").bestCell(0, 2));
            due(5, moorOf("pp00000;pp01400;pp03500;").bestCell(1, 2));
            due(4, moorOf(PAIR).bestCell(0, 2));
            due(35, moorOf(PAIR).bestCell(1, 2));
            due(30, moorOf("ps50000;pp00500;").bestCell(0, 2));
            due(0, moorOf(PAIR + "s000;").bestCell(1, 2));
        });
        test("KIND CELL: 0 of one who is alone", () -> {
            due(0, moorOf("pp00000;").bestCell(0, 2));
            due(0, moorOf("pp03500;").bestCell(0, 2));
            due(0, moorOf("po51400;s999;").bestCell(0, 2));
        });
    }

    // ---- others who come or leave

    private static void othersWhoComeOrLeave() {
        test("TAKES: by how much another one's SHARE were more, if one were not there (may be below 0)", () -> {
            AloneIsAQuantity x = moorOf(THREE);
            due(60, x.takes(0, 1));
            due(60, x.takes(2, 1));
            // 11 among three: 4 4 3; among two: 6 5.
            x.sum(11);
            due(2, x.takes(0, 1));
            due(2, x.takes(1, 0));
            due(2, x.takes(0, 2));
            due(2, x.takes(2, 0));
            due(1, x.takes(2, 1));
            x.sum(0);
            due(0, x.takes(0, 1));
            // WEIGHTS 10, 19 and 1; without the third 1 and 10.
            AloneIsAQuantity far = moorOf("pp00000;ps90000;pn93500;");
            due(-87, far.takes(2, 0));
            due(99, far.takes(2, 1));
            // Those behind him stay who they are: WEIGHTS 40 13 18, without the first 4 and 9.
            AloneIsAQuantity behind = moorOf("pw03500;ps30000;ps80000;s130;");
            due(40 - 24, behind.takes(0, 1));
            due(90 - 32, behind.takes(0, 2));
            // WEIGHTS 13 4 1, without the first 2 and 1.
            behind = moorOf("ps90000;pw10700;pn90700;s090;");
            due(60 - 20, behind.takes(0, 1));
            due(30 - 5, behind.takes(0, 2));
            due(-87, moorOf("pp00000;pn93500;ps90000;").takes(1, 0));
        });
        test("WORST: the one who takes most from him, of several the least", () -> {
            AloneIsAQuantity six = moorOf(SIX);
            due(1, six.worst(0));
            for (int one = 1; one < 6; one++) {
                due(0, six.worst(one));
            }
            // Who takes less than nothing, is the worst if there is nobody else, or nobody who takes more.
            AloneIsAQuantity far = moorOf("pp00000;ps90000;pn93500;");
            due(1, far.worst(0));
            due(2, moorOf("pp00000;pn93500;ps90000;").worst(0));
            AloneIsAQuantity less = moorOf("pp00000;pn93500;pn93500;s011;");
            due(-1, less.takes(1, 0));
            due(-1, less.takes(2, 0));
            due(1, less.worst(0));
            due(1, bare(THREE).worst(0));
            due(0, bare(THREE).worst(1));
            due(0, bare(THREE).worst(2));
        });
        test("WORST: -9 nobody else", () -> {
            due(-9, moorOf("pp00000;").worst(0));
            due(1, moorOf("pp00000;pp00000;").worst(0));
            due(0, moorOf("pp00000;pp00000;").worst(1));
        });
        test("NEWCOMER: a PERSON more (KIND p, FIGURE 0) in a CELL: his SHARE; how much the others lose together", () -> {
            AloneIsAQuantity x = moorOf("pp00000;");
            due(180, x.newcomer(0, 0));
            due(180, x.newcomer(0, 1));
            due(1, x.count(0));
            x.sum(3);
            due(1, x.newcomer(35, 0));
            due(1, x.newcomer(35, 1));
            x.sum(0);
            due(0, x.newcomer(35, 0));
            due(0, x.newcomer(35, 1));
            due(360, new AloneIsAQuantity().newcomer(0, 0));
            due(0, new AloneIsAQuantity().newcomer(0, 1));
            // In CELL 14 he is 4 STEPS and 5 STEPS away from the two, who weigh 9 and 15 then.
            due(98, moorOf(PAIR).newcomer(14, 0));
            due(98, moorOf(PAIR).newcomer(14, 1));
        });
        test("NEWCOMER: -9 there are 6", () -> {
            AloneIsAQuantity x = moorOf(SIX.substring(8));
            due(60, x.newcomer(0, 0));
            due(60, x.newcomer(0, 1));
            Asked.tell(x, "pp00000;");
            due(-9, x.newcomer(0, 0));
            due(-9, x.newcomer(35, 1));
        });
        test("LEAVES: the one by whose leaving most others HAVE more than now, of several the least; how many", () -> {
            due(0, moorOf(SIX).leaves(0));
            due(5, moorOf(SIX).leaves(1));
            // As much as now is not more.
            due(0, bare(SIX).leaves(0));
            due(0, bare(SIX).leaves(1));
            // By the NEWCOMER's leaving the PERSON beside the SHEPHERD HAS less.
            AloneIsAQuantity x = moorOf("pn93500;pp00000;ps90000;");
            due(1, x.leaves(0));
            due(2, x.leaves(1));
            due(0, moorOf("pp00000;").leaves(0));
            due(0, moorOf("pp00000;").leaves(1));
        });
        test("LEAVES: LOANS of his are none then", () -> {
            // Without the lender the other one has nothing, without the borrower the lender has nothing less.
            AloneIsAQuantity x = bare("pp00000;pp00000;l0110;");
            due(1, x.leaves(0));
            due(1, x.leaves(1));
            x = bare("pp00000;pp00000;l1010;");
            due(0, x.leaves(0));
            due(1, x.leaves(1));
            // Two have lent to the last one, and each other's LOANS stay.
            x = bare("pp00000;pp00000;pp00000;l0210;l1201;l0150;");
            due(2, x.leaves(0));
            due(2, x.leaves(1));
            // The LOANS of those who stay are theirs: the first and the last, whose NETS are 0, have nothing more then.
            x = bare("pp00000;pp00000;pp00000;l2005;l0205;");
            due(0, x.leaves(0));
            due(0, x.leaves(1));
            x = bare("pp00000;pp00000;pp00000;l2010;l1020;");
            due(0, x.leaves(0));
            due(2, x.leaves(1));
        });
        test("LEAVES: -9 nobody", () -> {
            due(-9, new AloneIsAQuantity().leaves(0));
            due(-9, new AloneIsAQuantity().leaves(1));
        });
    }

    // ---- who has enough, who could give, what is lent

    private static void lending() {
        test("ENOUGH: PEOPLE (bits) who HAVE their NEED or more now", () -> {
            AloneIsAQuantity x = moorOf("pp00060;pp00061;pp00059;pp00000;pp00099;pp00060;");
            due(0b101101, x.enough());
            x.sum(0);
            due(0b001000, x.enough());
            x.sum(999);
            due(0b111111, x.enough());
            // What is KEPT does not count, what is LENT does.
            x = bare("pp00000;pp00000;k00500;l0101;");
            due(0b10, x.enough());
            x.lend(0, 1, 0);
            due(0b11, x.enough());
            due(0, new AloneIsAQuantity().enough());
        });
        test("HELP: to nobody farther than d STEPS (0 .. 10)", () -> {
            AloneIsAQuantity x = bare("pp00000;pp03500;l1010;");
            due(0, x.help(0, 0));
            due(0, x.help(9, 0));
            due(10, x.help(10, 0));
            due(-6, x.help(11, 0));
            due(-4, x.help(-1, 0));
            x.go(1, 6);
            due(0, x.help(0, 0));
            due(10, x.help(1, 0));
            x.go(1, 0);
            due(10, x.help(0, 0));
            due(1, x.help(0, 1));
        });
        test("HELP: each no more than he has too much, nobody more than he lacks", () -> {
            // 10 too much; 4 and 10 are lacking.
            AloneIsAQuantity x = bare("pp00000;pp00004;pp03500;l2010;");
            due(4, x.help(0, 0));
            due(10, x.help(10, 0));
            x.need(0, 9);
            due(1, x.help(0, 0));
            due(1, x.help(10, 0));
            due(1, bare("pp00000;pp00001;pp03500;l2010;").help(0, 0));
            due(11, bare("pp00000;pp00001;pp03500;l2011;").help(10, 0));
            x.need(0, 10);
            due(0, x.help(10, 0));
            x.need(0, 11);
            due(0, x.help(10, 0));
            // Two give to one, one gives to two.
            x = bare("pp00000;pp00000;pp00012;pp03500;l3008;l3107;");
            due(12, x.help(0, 0));
            due(15, x.help(10, 0));
            x = bare("pp00000;pp00005;pp00004;pp03500;l3009;");
            due(9, x.help(0, 0));
            // Who got something passes nothing on: the third is 2 STEPS from the giver.
            x = bare("pp00000;pp00105;pp00205;pp03500;l3010;");
            due(5, x.help(1, 0));
            due(10, x.help(2, 0));
        });
        test("HELP: whether all that lack have enough then: 1, 0", () -> {
            AloneIsAQuantity x = moorOf("pp00070;pp00050;s120;");
            due(10, x.help(0, 0));
            due(1, x.help(0, 1));
            x.need(1, 51);
            due(9, x.help(0, 0));
            due(0, x.help(0, 1));
            x.need(0, 60);
            due(0, x.help(0, 0));
            due(1, x.help(0, 1));
            x.need(1, 99);
            x.need(0, 99);
            due(0, x.help(10, 0));
            due(0, x.help(10, 1));
            due(1, new AloneIsAQuantity().help(0, 1));
            due(0, new AloneIsAQuantity().help(10, 0));
        });
        test("NET: what one has LENT less what he has borrowed", () -> {
            AloneIsAQuantity x = moorOf(SIX + "l0199;l1098;l2001;");
            due(0, x.net(0));
            due(-1, x.net(1));
            due(1, x.net(2));
            due(0, x.net(5));
            for (int other = 0; other < 5; other++) {
                x.lend(5, other, 99);
            }
            due(495, x.net(5));
            due(-99, x.net(0));
        });
        test("how many LOANS (above 0) there are", () -> {
            AloneIsAQuantity x = moorOf(SIX);
            due(0, x.loans(0));
            x.lend(0, 1, 0);
            due(0, x.loans(0));
            x.lend(0, 1, 1);
            due(1, x.loans(0));
            x.lend(1, 0, 1);
            due(2, x.loans(0));
            for (int one = 0; one < 6; one++) {
                for (int other = 0; other < 6; other++) {
                    x.lend(one, other, 99);
                }
            }
            due(30, x.loans(0));
            x.lend(5, 4, 0);
            due(29, x.loans(0));
        });
        test("how many LOANS are enough so that all NETS are as now: the fewest", ThoughtsTest::fewest);
    }

    private static void fewest() {
        due(0, moorOf(SIX).loans(1));
        due(0, moorOf("pp00000;").loans(1));
        due(0, moorOf(SIX + "l0150;l1050;").loans(1));
        due(1, moorOf(SIX + "l0150;l1049;").loans(1));
        due(1, moorOf(SIX + "l0109;l1209;l2309;l3409;l4509;").loans(1));
        due(1, moorOf("pp00000;pp00000;l0101;").loans(1));
        // One has lent to all: nobody else can take a LOAN of his upon himself.
        due(5, moorOf(SIX + "l0101;l0202;l0303;l0404;l0505;").loans(1));
        due(5, moorOf(SIX + "l1001;l2001;l3001;l4001;l5001;").loans(1));
        // NETS 1 -1 2 -2 3 -3 in a ring of LOANS: three pairs.
        due(3, moorOf(SIX + "l0101;l2302;l4503;").loans(1));
        due(3, moorOf(SIX + "l0120;l1219;l2321;l3419;l4522;l5019;").loans(1));
        // NETS 3 -1 -2 and 6 -2 -4: two threes; 3 3 -2 -2 -1 -1 as well.
        due(4, moorOf(SIX + "l0101;l0202;l3402;l3504;").loans(1));
        due(4, moorOf(SIX + "l0101;l0202;l3402;l3501;").loans(1));
        // NETS 5 4 -3 -3 -2 -1: 5 with -3 and -2, 4 with -3 and -1.
        due(4, moorOf(SIX + "l0203;l0302;l1301;l1402;l1501;").loans(1));
        // NETS 1 2 4 8 -5 -10: 1 and 4 with -5, 2 and 8 with -10.
        due(4, moorOf(SIX + "l0401;l1502;l2404;l3508;").loans(1));
    }

    // ---- a surveyor, a quarrel

    private static void surveyAndQuarrel() {
        test("SURVEY: a surveyor (KIND p, FIGURE 0, one more, even if there are 6): SHARES of all others", () -> {
            due(0, new AloneIsAQuantity().survey(0));
            due(180, moorOf("pp00000;").survey(0));
            due(300, moorOf(SIX.substring(8)).survey(0));
            // 360 among seven: 52 for the first three, 51 for the others and for him.
            due(309, moorOf(SIX).survey(0));
            AloneIsAQuantity six = moorOf(SIX);
            due(-9, six.newcomer(0, 0));
            // He is 60 STEPS from them, they 10 from him each.
            due(180, six.survey(35));
            due(6, six.count(0));
            due(0, bare(SIX).survey(0));
            due(262, moorOf(PAIR).survey(14));
        });
        test("SURVEY: the CELL in which he finds most, of several the least", () -> {
            due(0, new AloneIsAQuantity().bestSurvey());
            due(0, bare(SIX).bestSurvey());
            // Beside one PERSON he is as far from him as that one from him: half is found in each CELL.
            due(0, moorOf("pp01400;").bestSurvey());
            // In the SHEPHERD's CELL and a STEP from it (8, 13, 15, 20) he weighs 1.
            due(8, moorOf("ps91400;").bestSurvey());
            due(29, moorOf("ps93500;").bestSurvey());
            due(0, moorOf("ps90000;").bestSurvey());
        });
        test("QUARREL: two, who will not be within k STEPS (1 .. 10)", () -> {
            AloneIsAQuantity x = moorOf("pp01400;pp01400;");
            due(2, x.quarrel(0, 1, 1, 0));
            // 5 STEPS from CELL 14 are enough for 4, 6 for 5; more are there not.
            due(Asked.FAR + 4, x.quarrel(0, 1, 0, 0));
            due(35, x.quarrel(0, 1, 5, 0));
            due(-9, x.quarrel(0, 1, 6, 0));
            due(-9, x.quarrel(0, 1, 6, 1));
            due(-9, x.quarrel(0, 1, 10, 0));
            due(Asked.FAR + 6, x.quarrel(0, 1, 11, 0));
            // Who is k STEPS away must go, who is one more away is there.
            AloneIsAQuantity near = moorOf("pp01600;pp01400;");
            due(16, near.quarrel(0, 1, 1, 0));
            due(0, near.quarrel(0, 1, 1, 1));
            due(10, near.quarrel(0, 1, 2, 0));
            AloneIsAQuantity corners = moorOf("pp03500;pp00000;");
            due(35, corners.quarrel(0, 1, 9, 0));
            due(0, corners.quarrel(1, 0, 9, 0));
            due(-9, corners.quarrel(0, 1, 10, 0));
            due(-9, corners.quarrel(1, 0, 10, 1));
        });
        test("QUARREL: the CELL with the fewest STEPS, of several the least", () -> {
            // From CELL 0, 5 STEPS are too near: 6 are there in 11, 16, 21, 26 and 31.
            due(11, moorOf("pp00000;pp00000;").quarrel(0, 1, 5, 0));
            // One CELL alone is far enough.
            due(0, moorOf("pp01400;pp03500;").quarrel(0, 1, 9, 0));
            due(35, moorOf("pp01400;pp00000;").quarrel(0, 1, 9, 0));
            // A STEP leads to 29 and 34; CELL 5 is far enough, too, but farther to go.
            due(29, moorOf("pp02800;pp01400;").quarrel(0, 1, 4, 0));
        });
        test("QUARREL: what his SHARE is more then (may be below 0)", () -> {
            due(8, moorOf(PAIR).quarrel(0, 1, 5, 1));
            due(-8, moorOf(PAIR).quarrel(1, 0, 5, 1));
            due(0, moorOf("pp00000;pp00000;").quarrel(0, 1, 9, 1));
            due(0, moorOf(PAIR + "s000;").quarrel(0, 1, 5, 1));
        });
    }

    // ---- two who choose

    private static void two() {
        test("TWO: to stay (0), or go a CELL up, left, right, down (1 .. 4)", () -> {
            // The PERSON wants to be far, the SHEPHERD to be near: he comes from each side.
            due(42, moorOf("pp00000;ps50500;").two(0, 1));
            due(24, moorOf("pp00000;ps50500;").two(1, 0));
            due(12, moorOf("pp03000;ps53500;").two(0, 1));
            due(43, moorOf("pp00500;ps50000;").two(0, 1));
            due(34, moorOf("pp02400;ps51200;").two(0, 1));
            // The SHEPHERD is 2 STEPS above him, below, left, right.
            due(24, moorOf("pp01400;ps50200;").two(0, 1));
            due(11, moorOf("pp01400;ps52600;").two(0, 1));
            due(13, moorOf("pp01400;ps51200;").two(0, 1));
            due(12, moorOf("pp01400;ps51600;").two(0, 1));
        });
        test("TWO: off the moor: stays", () -> {
            // From a corner the PERSON has no way that leads farther.
            due(1, moorOf("pp00000;ps53500;").two(0, 1));
            due(1, moorOf("pp00500;ps53000;").two(0, 1));
            due(2, moorOf("pp03000;ps50500;").two(0, 1));
            due(3, moorOf("pp03500;ps50000;").two(0, 1));
            due(10, moorOf("pp00000;ps53500;").two(1, 0));
            due(30, moorOf("pp03500;ps50000;").two(1, 0));
            // The SHEPHERD comes into his CELL at the border; the other end of the row or column would be far from it.
            due(1, moorOf("pp00200;ps50800;").two(0, 1));
            due(2, moorOf("pp00600;ps50700;").two(0, 1));
            due(3, moorOf("pp01100;ps51000;").two(0, 1));
            due(4, moorOf("pp03200;ps52600;").two(0, 1));
            // The SHEPHERD is at the border himself; the other end would be nearer to the corner.
            due(2, moorOf("pp03000;ps50200;").two(0, 1));
            due(3, moorOf("pp03500;ps50600;").two(0, 1));
            due(2, moorOf("pp03000;ps51100;").two(0, 1));
            due(1, moorOf("pp00000;ps53200;").two(0, 1));
        });
        test("TWO: the first pair by which neither has more by another choice alone", () -> {
            due(0, moorOf("pp00000;pp03500;").two(0, 1));
            due(0, moorOf(PAIR + "s000;").two(0, 1));
            due(0, moorOf(PAIR + "s000;").two(1, 0));
            due(0, moorOf("pp01400;ps51400;").two(0, 1));
        });
        test("TWO: -9", () -> {
            due(-9, moorOf("po81400;pc61600;").two(0, 1));
            // 3 STEPS apart and more, the COUPLE wants an even way, the PERSON an odd one: each STEP is another's.
            due(-9, moorOf("pp01900;pc02200;").two(0, 1));
            due(-9, moorOf("pp01900;pc02200;").two(1, 0));
            due(-9, moorOf("pc03500;pp00900;").two(0, 1));
            due(-9, moorOf("pw00800;pc01100;").two(0, 1));
            due(-9, moorOf("pc01300;pw02200;").two(0, 1));
            due(30, moorOf("pc23300;pp31400;s011;").two(0, 1));
            due(33, moorOf("pc60700;pp71400;s116;").two(0, 1));
        });
    }

    // ---- CROWD, RAISE

    private static void crowdAndRaise() {
        test("CROWD: the least and the most STEPS of two at all", () -> {
            AloneIsAQuantity x = moorOf("pp00000;pp03500;");
            due(10, x.crowd(0));
            due(10, x.crowd(1));
            x = moorOf("pp00000;pp00000;");
            due(0, x.crowd(0));
            due(0, x.crowd(1));
            x = moorOf("pp00000;pp00300;pp00500;pp03500;pp02900;pp03000;");
            due(1, x.crowd(0));
            due(10, x.crowd(1));
        });
        test("CROWD: the two that are nearest (10 the lesser and the other), of several the first", () -> {
            due(1, moorOf(SIX).crowd(2));
            due(1, moorOf("pp00000;pp03500;").crowd(2));
            due(45, moorOf("pp00000;pp00500;pp03000;pp01400;pp03500;pp02900;").crowd(2));
            due(1, moorOf("pp00000;pp00500;pp03000;pp01400;pp03500;pp02900;").crowd(0));
            // A STEP lies between 0 and 5, 1 and 2, 3 and 4.
            due(5, moorOf("pp00000;pp00500;pp00400;pp03500;pp03400;pp00100;").crowd(2));
            due(12, moorOf("pp03000;pp00500;pp00400;pp03500;pp03400;pp00100;").crowd(2));
            due(15, moorOf("pp03000;pp00500;pp00300;pp01400;pp01300;pp00400;").crowd(2));
        });
        test("CROWD: -9 fewer than two", () -> {
            for (int what = 0; what < 3; what++) {
                due(-9, new AloneIsAQuantity().crowd(what));
                due(-9, moorOf("pp00000;").crowd(what));
                due(what == 2 ? 1 : 0, moorOf("pp00000;pp00000;").crowd(what));
            }
        });
        test("RAISE: the least SUM (0 .. 999) with which all HAVE their NEED; -9", () -> {
            due(0, new AloneIsAQuantity().raise());
            due(0, moorOf(SIX).raise());
            due(1, moorOf("pp00001;").raise());
            due(99, moorOf("pp00099;").raise());
            // What is left over goes to the first ones: 2 + 1 + 1, and 2 + 2 + 1 + 1 for the third to have 2.
            due(4, moorOf("pp00002;pp00001;pp00001;").raise());
            due(6, moorOf("pp00001;pp00001;pp00002;").raise());
            // He has an eleventh of SUM: 90 with 990, and with 999.
            AloneIsAQuantity x = moorOf("pp00000;pn93599;");
            due(-9, x.raise());
            x.need(1, 90);
            due(990, x.raise());
            x.need(1, 91);
            due(-9, x.raise());
            // A ninth less 12 LENT is 99 with 999, and not with less; less 13 it never is.
            x = moorOf("pp00000;pn93399;l1012;");
            due(999, x.raise());
            due(360, x.count(2));
            x.lend(1, 0, 13);
            due(-9, x.raise());
            x = moorOf("pp00099;pp00000;l1099;");
            due(198, x.raise());
            x.need(0, 0);
            due(198, x.raise());
            x.lend(1, 0, 0);
            due(0, x.raise());
        });
    }

    // ---- EASTER

    private static void easter() {
        test("EASTER: on the first of each 7 (DAY modulo 7 is 1, as that DAY has made it) two are in one CELL", () -> {
            // Together the SHEPHERD has 308 a DAY, else 240, and needs 10.
            int[] due = {0, 298, 528, 758, 988, 1218, 1448, 1678, 1976, 2206};
            for (int day = 0; day <= 14; day += 7) {
                AloneIsAQuantity x = moorOf(PAIR);
                Asked.passTo(x, day);
                x.keep(1, 0);
                for (int n = 0; n < due.length; n++) {
                    due(due[n], x.easter(0, 1, n));
                }
            }
            AloneIsAQuantity x = moorOf(PAIR + "d01;");
            x.keep(1, 0);
            due(6 * 230, x.easter(0, 1, 6));
            due(6 * 230 + 298, x.easter(0, 1, 7));
        });
        test("EASTER: in the first's CELL", () -> {
            // A third one is in CELL 35, too. Two in CELL 0 have 90 each, all three in CELL 35 have 120 each.
            AloneIsAQuantity x = moorOf("pp00000;pp03500;pp03500;");
            due(90, x.easter(0, 1, 1));
            due(120, x.easter(1, 0, 1));
            due(120, x.easter(2, 0, 1));
            // On the next DAY they are where they were: 180 in CELL 0, 90 each in CELL 35.
            due(180, x.easter(0, 1, 2));
            due(300, x.easter(1, 0, 2));
            due(0, x.person(0, 2));
            due(35, x.person(1, 2));
        });
        test("EASTER: what the other one's KEPT is behind n DAYS", () -> {
            AloneIsAQuantity x = moorOf(PAIR);
            x.keep(0, 100);
            x.keep(1, 9000);
            due(9000, x.easter(0, 1, 0));
            due(100, x.easter(1, 0, 0));
            due(9999, x.easter(0, 1, 99));
            due(-6, x.easter(0, 1, 100));
            due(9000, x.person(1, 4));
            due(0, x.count(1));
        });
    }

    // ---- ROWS

    private static AloneIsAQuantity rowOf(AloneIsAQuantity x, int... row) {
        x.clear();
        for (int v : row) {
            x.row(v);
        }
        return x;
    }

    private static void rows() {
        test("WHAT HE IS: SHARES of PEOPLE 0, 1, .. (99 for 99 or more)", () -> {
            for (int share = 97; share <= 101; share++) {
                AloneIsAQuantity x = moorOf("pp00000;");
                x.sum(share);
                due(share == 98 ? 0b111111 : 0, rowOf(x, 98).whatIs(0, 0));
                due(share >= 99 ? 0b111111 : 0, rowOf(x, 99).whatIs(0, 0));
                due(share >= 99 ? 1023 : 0, x.whatIs(0, 1));
            }
        });
        test("WHAT HE IS: KINDS (bits) by which all of it is so", () -> {
            // With FIGURE 9 and one PERSON in his CELL the KINDS weigh 1 10 2 1 10 1.
            AloneIsAQuantity x = moorOf("pp90000;pp00000;s132;");
            due(0b101001, rowOf(x, 66, 66).whatIs(0, 0));
            due(0b000100, rowOf(x, 88, 44).whatIs(0, 0));
            due(0, rowOf(x, 66, 65).whatIs(0, 0));
            due(0, rowOf(x, 67, 66).whatIs(0, 0));
            x.sum(110);
            due(0b010010, rowOf(x, 99, 10).whatIs(0, 0));
            due(0, rowOf(x, 99, 9).whatIs(0, 0));
            due(0b111111, rowOf(bare("pp90000;pp00000;"), 0, 0).whatIs(0, 0));
            due(0, x.person(0, 0));
        });
        test("WHAT HE IS: FIGURES (bits 0 .. 9)", () -> {
            // The SHEPHERD weighs 1 and his FIGURE: with 110, FIGURE 8 has 99 and 9 has 100, told as 99.
            AloneIsAQuantity x = moorOf("ps00000;pp00000;s110;");
            due(1 << 8, rowOf(x, 99, 11).whatIs(0, 1));
            due(1 << 9, rowOf(x, 99, 10).whatIs(0, 1));
            due(1 << 0, rowOf(x, 55, 55).whatIs(0, 1));
            due(0, rowOf(x, 55, 54).whatIs(0, 1));
            x = moorOf("ps00000;pp00000;s012;");
            due(1 << 0, rowOf(x, 6, 6).whatIs(0, 1));
            due(1 << 1, rowOf(x, 8, 4).whatIs(0, 1));
            due(1 << 3 | 1 << 4, rowOf(x, 10, 2).whatIs(0, 1));
            due(0b1111100000, rowOf(x, 11, 1).whatIs(0, 1));
            due(1023, rowOf(moorOf("pp00000;pp00000;s012;"), 6, 6).whatIs(0, 1));
            due(0, x.person(0, 1));
            // Numbers that were cleared, or judged, are not in the ROW.
            rowOf(x, 7, 7, 7, 7, 7);
            due(1 << 0, rowOf(x, 6, 6).whatIs(0, 1));
            rowOf(x, 7, 7, 7, 7, 7).judge(0);
            x.row(8);
            x.row(4);
            due(1 << 1, x.whatIs(0, 1));
        });
        test("a ROW of numbers (0 .. 99; 12 at most)", () -> {
            AloneIsAQuantity x = new AloneIsAQuantity();
            due(1, x.row(0));
            due(2, x.row(99));
            due(-6, x.row(100));
            due(-4, x.row(-1));
            for (int i = 3; i <= 12; i++) {
                due(i, x.row(i));
            }
            due(-6, x.row(0));
            due(12, x.count(6));
            due(12, x.clear());
            due(1, x.row(0));
        });
        test("JUDGED: KEPT of one (99 for 99 or more) behind 0, 1, .. DAYS: the first that is not so; -9", () -> {
            // KEPT is 97, 98, 99, 100 behind 0 .. 3 DAYS.
            AloneIsAQuantity x = moorOf("pp00000;s001;");
            x.keep(0, 97);
            due(-9, x.judge(0));
            due(-9, rowOf(x, 97).judge(0));
            due(0, rowOf(x, 96).judge(0));
            due(0, rowOf(x, 98).judge(0));
            due(-9, rowOf(x, 97, 98, 99, 99).judge(0));
            due(1, rowOf(x, 97, 99, 99, 99).judge(0));
            due(2, rowOf(x, 97, 98, 98, 99).judge(0));
            due(3, rowOf(x, 97, 98, 99, 98).judge(0));
            due(0, rowOf(x, 98, 97).judge(0));
            due(-9, rowOf(x, 97, 98, 99, 99, 99, 99, 99, 99, 99, 99, 99, 99).judge(0));
            due(11, rowOf(x, 97, 98, 99, 99, 99, 99, 99, 99, 99, 99, 99, 98).judge(0));
            due(97, x.person(0, 4));
            due(0, x.count(1));
        });
    }

    // ---- LOTS

    private static void lots() {
        test("LOTS: n moors (1 .. 20), the CELL of each a DRAW: the SHARES of the first one together", () -> {
            AloneIsAQuantity alone = moorOf("pp00000;");
            due(-4, alone.lots(0, 0, 0));
            due(360, alone.lots(1, 0, 0));
            due(7200, alone.lots(20, 0, 0));
            due(-6, alone.lots(21, 0, 0));
            // Draws from 0: CELLS 23 and 21: 2 STEPS, 2 and 7; then 18 and 23: 5 STEPS, 5 and 10.
            AloneIsAQuantity x = moorOf(PAIR);
            due(80, x.lots(1, 0, 0));
            due(200, x.lots(2, 0, 0));
            due(0, x.person(0, 2));
        });
        test("LOTS: how many HAVE their NEED", () -> {
            AloneIsAQuantity x = moorOf("pp00080;ps50599;");
            due(2, x.lots(1, 0, 1));
            x.need(0, 81);
            due(1, x.lots(1, 0, 1));
            due(3, x.lots(2, 0, 1));
            AloneIsAQuantity six = moorOf(SIX);
            due(6, six.lots(1, 5, 1));
            due(120, six.lots(20, 5, 1));
            six.sum(0);
            six.need(3, 1);
            due(100, six.lots(20, 5, 1));
        });
        test("A DRAW: z becomes z times 1664525 and 1013904223 (an int); z without its sign's bit", () -> {
            // A SHEPHERD (9) with a PERSON: the PERSON's SHARE tells how far they are.
            for (int seed : new int[] {0, 1, -1, Asked.MAX, Asked.MIN, 1013904223, -775096599, 1196435762, 123456789}) {
                due(drawn(seed, 1), moorOf("pp00000;ps90000;").lots(1, seed, 0));
                due(drawn(seed, 20), moorOf("pp00000;ps90000;").lots(20, seed, 0));
            }
        });
    }

    /** The same by numbers without an end, cut to 32 bits by modulo. */
    private static int drawn(int seed, int n) {
        java.math.BigInteger z = java.math.BigInteger.valueOf(seed);
        int all = 0;
        for (int i = 0; i < n; i++) {
            int[] cell = new int[2];
            for (int one = 0; one < 2; one++) {
                z = z.multiply(java.math.BigInteger.valueOf(1664525)).add(java.math.BigInteger.valueOf(1013904223));
                java.math.BigInteger bare = z.mod(java.math.BigInteger.ONE.shiftLeft(31));
                cell[one] = bare.divide(java.math.BigInteger.valueOf(256)).mod(java.math.BigInteger.valueOf(36)).intValue();
            }
            int far = Math.abs(cell[0] / 6 - cell[1] / 6) + Math.abs(cell[0] % 6 - cell[1] % 6);
            int first = Math.max(1, far);
            int both = first + first + 9;
            int share = 360 * first / both;
            all += share + (360 - share - 360 * (first + 9) / both > 0 ? 1 : 0);
        }
        return all;
    }
}
