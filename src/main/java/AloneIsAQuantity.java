/**
 * A moor of six by six cells, at most six people on it, and a sum that is shared among them by how
 * far they are from each other. The public methods refuse what the document refuses and hand the
 * rest on: Moor holds what is, DaysToCome, OtherMoors and Lending answer what would be, and Text
 * reads a moor told in letters.
 */
public final class AloneIsAQuantity {
    private static final int NOBODY = -1;
    private static final int OTHER = -2;
    private static final int STATE = -3;
    private static final int BELOW = -4;
    private static final int ABOVE = -6;
    private static final int NONE = -9;

    // The greatest int, and so all of its bits but the sign's.
    private static final int GREATEST = 0x7fffffff;

    // Some answers may be below 0 themselves: their refusals are told above every answer.
    private static final int FAR_REFUSAL = 1000000000;

    private static final int CELLS = 36;
    private static final int COLUMNS = 6;
    private static final int MOST_STEPS = 10;
    private static final int MOST_PEOPLE = 6;
    // A surveyor comes even to six.
    private static final int PEOPLE_ROOM = 7;
    private static final int SUBSETS = 1 << MOST_PEOPLE;

    private static final int MOST_LETTERS = 96;
    private static final int MOST_LETTER = 255;
    private static final int MOST_TOLD = 12;
    private static final int MOST_FIGURE = 9;
    private static final int MOST_SMALL = 99;
    private static final int MOST_KEPT = 9999;
    private static final int MOST_SUM = 999;
    private static final int FIRST_SUM = 360;
    private static final int MOST_DAY = 999;
    private static final int MOST_DAYS = 60;
    private static final int MOST_LOTS = 20;

    private static final int KINDS = 6;
    private static final int PERSON = 0;
    private static final int SHEPHERD = 1;
    private static final int WIDOW = 2;
    private static final int COUPLE = 3;
    private static final int POET = 4;
    private static final int NEWCOMER = 5;
    private static final String KIND_LETTERS = "pswcon";
    private static final int POET_ALONE_STEPS = 3;
    private static final int POET_ALONE_MORE = 5;

    // The choices of two; 0 is to stay.
    private static final int CHOICES = 5;
    private static final int UP = 1;
    private static final int LEFT = 2;
    private static final int RIGHT = 3;
    private static final int DOWN = 4;

    // How statements are spelled: KIND stands for a letter of a kind, DIGIT for any digit.
    private static final char KIND = '?';
    private static final char DIGIT = '0';
    private static final String PERSON_FORM = "p?00000;";
    private static final String PLACE_FORM = "a000;";
    private static final String LOAN_FORM = "l0000;";
    private static final String KEPT_FORM = "k00000;";
    private static final String SUM_FORM = "s000;";
    private static final String DAYS_FORM = "d00;";
    private static final int WRONG_LETTER = -1000;
    private static final int WRONG_STATEMENT = -2000;

    private final Moor moor = new Moor();
    private final Moor thought = new Moor();
    private final DaysToCome daysToCome = new DaysToCome(moor, thought);
    private final OtherMoors otherMoors = new OtherMoors(moor, thought);
    private final Lending lending = new Lending(moor);
    private final Text text = new Text();
    private final Moor imageMoor = new Moor();
    private boolean imageTaken = false;
    private final Numbers told = new Numbers(MOST_TOLD);
    private int toldCount = 0;
    private final Numbers refusals = new Numbers(-ABOVE + 1);

    public AloneIsAQuantity() {
    }

    // ---- what is told and asked of the moor as it is

    public int letter(int c) {
        if (c < 0) {
            return refuse(BELOW);
        }
        if (c > MOST_LETTER || !text.hasRoom()) {
            return refuse(ABOVE);
        }
        return text.append(c);
    }

    public int moor() {
        // Said to a copy first: with a FAULT in a later statement nothing of the text may come.
        thought.takeFrom(moor);
        int answer = text.tellTo(thought);
        if (answer >= 0) {
            moor.takeFrom(thought);
        }
        text.drop();
        return answer;
    }

    public int person(int person, int what) {
        if (!moor.isThere(person)) {
            return refuse(NOBODY);
        }
        switch (what) {
            case 0:
                return moor.kindOf(person);
            case 1:
                return moor.figureOf(person);
            case 2:
                return moor.cellOf(person);
            case 3:
                return moor.needOf(person);
            case 4:
                return moor.keptOf(person);
            case 5:
                return moor.weightOf(person);
            case 6:
                return moor.shareOf(person);
            default:
                return refuse(OTHER);
        }
    }

    public int owns(int person) {
        if (!moor.isThere(person)) {
            return refuseFar(NOBODY);
        }
        return moor.hasOf(person);
    }

    public int loan(int one, int other) {
        if (!moor.areTwo(one, other)) {
            return refuse(NOBODY);
        }
        return moor.lentBy(one, other);
    }

    public int go(int person, int cell) {
        if (!moor.isThere(person) || !isCell(cell)) {
            return refuse(NOBODY);
        }
        int before = moor.cellOf(person);
        moor.place(person, cell);
        return before;
    }

    public int lend(int one, int other, int v) {
        if (!moor.areTwo(one, other)) {
            return refuse(NOBODY);
        }
        if (v < 0) {
            return refuse(BELOW);
        }
        if (v > MOST_SMALL) {
            return refuse(ABOVE);
        }
        int before = moor.lentBy(one, other);
        moor.setLent(one, other, v);
        return before;
    }

    public int keep(int person, int v) {
        if (!moor.isThere(person)) {
            return refuse(NOBODY);
        }
        if (v < 0) {
            return refuse(BELOW);
        }
        if (v > MOST_KEPT) {
            return refuse(ABOVE);
        }
        int before = moor.keptOf(person);
        moor.setKept(person, v);
        return before;
    }

    public int need(int person, int v) {
        if (!moor.isThere(person)) {
            return refuse(NOBODY);
        }
        if (v < 0) {
            return refuse(BELOW);
        }
        if (v > MOST_SMALL) {
            return refuse(ABOVE);
        }
        int before = moor.needOf(person);
        moor.setNeed(person, v);
        return before;
    }

    public int sum(int v) {
        if (v < 0) {
            return refuse(BELOW);
        }
        if (v > MOST_SUM) {
            return refuse(ABOVE);
        }
        int before = moor.total();
        moor.setTotal(v);
        return before;
    }

    public int days(int n) {
        if (n < 1) {
            return refuse(BELOW);
        }
        if (n > MOST_DAYS || moor.day() + n > MOST_DAY) {
            return refuse(ABOVE);
        }
        return Integer.bitCount(moor.passDays(n));
    }

    // ---- what is thought of days to come

    public int behind(int person, int n, int what) {
        if (!moor.isThere(person)) {
            return refuse(NOBODY);
        }
        if (n < 0) {
            return refuse(BELOW);
        }
        if (n > MOST_SMALL) {
            return refuse(ABOVE);
        }
        if (what < 0 || what > 1) {
            return refuse(OTHER);
        }
        return what == 0 ? daysToCome.keptAfter(person, n) : daysToCome.shortDays(person, n);
    }

    public int firstShort(int what) {
        if (what < 0 || what > 1) {
            return refuse(OTHER);
        }
        return what == 0 ? daysToCome.firstShortDay() : daysToCome.firstShortOne();
    }

    public int lasts(int person) {
        if (!moor.isThere(person)) {
            return refuse(NOBODY);
        }
        return daysToCome.daysTillShort(person);
    }

    // ---- what is thought of other cells, and of others who come or leave

    public int bestCell(int person, int what) {
        if (!moor.isThere(person)) {
            return refuse(NOBODY);
        }
        switch (what) {
            case 0:
                return otherMoors.richestCell(person);
            case 1:
                return otherMoors.shareIn(person, otherMoors.richestCell(person));
            case 2:
                return otherMoors.kindCell(person);
            default:
                return refuse(OTHER);
        }
    }

    public int takes(int one, int other) {
        if (!moor.areTwo(one, other)) {
            return refuseFar(NOBODY);
        }
        return otherMoors.takenBy(one, other);
    }

    public int worst(int person) {
        if (!moor.isThere(person)) {
            return refuse(NOBODY);
        }
        return otherMoors.worstFor(person);
    }

    public int newcomer(int cell, int what) {
        if (!isCell(cell)) {
            return refuseFar(NOBODY);
        }
        if (what < 0 || what > 1) {
            return refuseFar(OTHER);
        }
        if (moor.people() >= MOST_PEOPLE) {
            return NONE;
        }
        int others = otherMoors.sharesBesideOneMoreIn(cell);
        return what == 0 ? moor.total() - others : moor.allShares() - others;
    }

    public int leaves(int what) {
        if (what < 0 || what > 1) {
            return refuse(OTHER);
        }
        int leaver = otherMoors.bestLeaver();
        return what == 0 || leaver == NONE ? leaver : otherMoors.gainersWithout(leaver);
    }

    // ---- who has enough, and what is lent

    public int enough() {
        return moor.contentBits();
    }

    public int help(int d, int what) {
        if (d < 0) {
            return refuse(BELOW);
        }
        if (d > MOST_STEPS) {
            return refuse(ABOVE);
        }
        if (what < 0 || what > 1) {
            return refuse(OTHER);
        }
        int given = lending.mostGiven(d);
        if (what == 0) {
            return given;
        }
        return given == lending.lackingOfAll() ? 1 : 0;
    }

    public int net(int person) {
        if (!moor.isThere(person)) {
            return refuseFar(NOBODY);
        }
        return moor.netOf(person);
    }

    public int loans(int what) {
        if (what < 0 || what > 1) {
            return refuse(OTHER);
        }
        return what == 0 ? moor.loansAboveNothing() : lending.fewestLoans();
    }

    // ---- a surveyor, a quarrel, two who choose

    public int survey(int cell) {
        if (!isCell(cell)) {
            return refuse(NOBODY);
        }
        return otherMoors.sharesBesideOneMoreIn(cell);
    }

    public int bestSurvey() {
        return otherMoors.bestSurveyCell();
    }

    public int quarrel(int one, int other, int k, int what) {
        if (!moor.areTwo(one, other)) {
            return refuseFar(NOBODY);
        }
        if (k < 1) {
            return refuseFar(BELOW);
        }
        if (k > MOST_STEPS) {
            return refuseFar(ABOVE);
        }
        if (what < 0 || what > 1) {
            return refuseFar(OTHER);
        }
        int cell = otherMoors.quarrelCell(one, other, k);
        if (what == 0 || cell == NONE) {
            return cell;
        }
        return otherMoors.shareIn(one, cell) - moor.shareOf(one);
    }

    public int two(int a, int b) {
        if (!moor.areTwo(a, b)) {
            return refuse(NOBODY);
        }
        return otherMoors.firstSteadyPair(a, b);
    }

    public int crowd(int what) {
        switch (what) {
            case 0:
                return moor.leastSteps();
            case 1:
                return moor.mostSteps();
            case 2:
                return moor.nearestPair();
            default:
                return refuse(OTHER);
        }
    }

    public int raise() {
        return otherMoors.leastTotalForAll();
    }

    public int easter(int one, int other, int n) {
        if (!moor.areTwo(one, other)) {
            return refuse(NOBODY);
        }
        if (n < 0) {
            return refuse(BELOW);
        }
        if (n > MOST_SMALL) {
            return refuse(ABOVE);
        }
        return daysToCome.keptAfterVisits(one, other, n);
    }

    // ---- the row that is told

    public int whatIs(int person, int what) {
        if (!moor.isThere(person)) {
            return refuse(NOBODY);
        }
        if (what < 0 || what > 1) {
            return refuse(OTHER);
        }
        if (toldCount != moor.people()) {
            return refuse(STATE);
        }
        return what == 0 ? otherMoors.kindsTold(person, told) : otherMoors.figuresTold(person, told);
    }

    public int row(int v) {
        if (v < 0) {
            return refuse(BELOW);
        }
        if (v > MOST_SMALL || toldCount >= MOST_TOLD) {
            return refuse(ABOVE);
        }
        told.put(toldCount, v);
        toldCount++;
        return toldCount;
    }

    public int judge(int person) {
        if (!moor.isThere(person)) {
            return refuse(NOBODY);
        }
        int answer = daysToCome.firstMistold(person, told, toldCount);
        toldCount = 0;
        return answer;
    }

    public int clear() {
        int before = toldCount;
        toldCount = 0;
        return before;
    }

    // ---- moors by lot, the image, the counts

    public int lots(int n, int z, int what) {
        if (n < 1) {
            return refuse(BELOW);
        }
        if (n > MOST_LOTS) {
            return refuse(ABOVE);
        }
        if (what < 0 || what > 1) {
            return refuse(OTHER);
        }
        if (moor.people() < 1) {
            return refuse(STATE);
        }
        return what == 0 ? otherMoors.firstSharesByLot(n, z) : otherMoors.contentByLot(n, z);
    }

    public int image() {
        imageMoor.takeFrom(moor);
        imageTaken = true;
        return moor.day();
    }

    public int on() {
        if (!imageTaken) {
            return refuse(STATE);
        }
        moor.takeFrom(imageMoor);
        return moor.day();
    }

    public int count(int what) {
        switch (what) {
            case 0:
                return moor.people();
            case 1:
                return moor.day();
            case 2:
                return moor.total();
            case 3:
                return moor.allWeights();
            case 4:
                return moor.allNeeds();
            case 5:
                return moor.allKept();
            case 6:
                return toldCount;
            case 7:
                return text.length();
            default:
                return what >= 11 && what <= 16 ? refusals.at(what - 10) : NONE;
        }
    }

    private int refuse(int number) {
        refusals.put(-number, refusals.at(-number) + 1);
        return number;
    }

    private int refuseFar(int number) {
        return FAR_REFUSAL - refuse(number);
    }

    private static boolean isCell(int cell) {
        return cell >= 0 && cell < CELLS;
    }

    private static int steps(int from, int to) {
        return Math.abs(from / COLUMNS - to / COLUMNS) + Math.abs(from % COLUMNS - to % COLUMNS);
    }

    /** A row of numbers that looks at each index itself: outside of it there is 0, and nothing is put. */
    private static final class Numbers {
        private final int[] all;

        Numbers(int room) {
            all = new int[Math.max(room, 0)];
        }

        int at(int i) {
            return i >= 0 && i < all.length ? all[i] : 0;
        }

        void put(int i, int v) {
            if (i >= 0 && i < all.length) {
                all[i] = v;
            }
        }

        void takeFrom(Numbers other) {
            for (int i = 0; i < all.length; i++) {
                all[i] = other.at(i);
            }
        }
    }

    /** People in cells; each change brings up to date what follows from it: nets, weights, shares. */
    private static final class Moor {
        private final Numbers kinds = new Numbers(PEOPLE_ROOM);
        private final Numbers figures = new Numbers(PEOPLE_ROOM);
        private final Numbers cells = new Numbers(PEOPLE_ROOM);
        private final Numbers needs = new Numbers(PEOPLE_ROOM);
        private final Numbers kepts = new Numbers(PEOPLE_ROOM);
        private final Numbers lents = new Numbers(PEOPLE_ROOM * PEOPLE_ROOM);
        private final Numbers nets = new Numbers(PEOPLE_ROOM);
        private final Numbers weights = new Numbers(PEOPLE_ROOM);
        private final Numbers shares = new Numbers(PEOPLE_ROOM);
        private int people = 0;
        private int total = FIRST_SUM;
        private int day = 0;
        private int weightOfAll = 0;

        void takeFrom(Moor other) {
            kinds.takeFrom(other.kinds);
            figures.takeFrom(other.figures);
            cells.takeFrom(other.cells);
            needs.takeFrom(other.needs);
            kepts.takeFrom(other.kepts);
            lents.takeFrom(other.lents);
            nets.takeFrom(other.nets);
            weights.takeFrom(other.weights);
            shares.takeFrom(other.shares);
            people = other.people;
            total = other.total;
            day = other.day;
            weightOfAll = other.weightOfAll;
        }

        int people() {
            return people;
        }

        int total() {
            return total;
        }

        int day() {
            return day;
        }

        boolean isThere(int one) {
            return one >= 0 && one < people;
        }

        boolean areTwo(int one, int other) {
            return isThere(one) && isThere(other) && one != other;
        }

        int kindOf(int one) {
            return kinds.at(one);
        }

        int figureOf(int one) {
            return figures.at(one);
        }

        int cellOf(int one) {
            return cells.at(one);
        }

        int needOf(int one) {
            return needs.at(one);
        }

        int keptOf(int one) {
            return kepts.at(one);
        }

        int weightOf(int one) {
            return weights.at(one);
        }

        int shareOf(int one) {
            return shares.at(one);
        }

        int stepsOf(int one, int other) {
            return steps(cells.at(one), cells.at(other));
        }

        int lentBy(int one, int other) {
            return lents.at(one * PEOPLE_ROOM + other);
        }

        int netOf(int one) {
            return nets.at(one);
        }

        int hasOf(int one) {
            return shares.at(one) - nets.at(one);
        }

        int allShares() {
            return people > 0 ? total : 0;
        }

        int allWeights() {
            return weightOfAll;
        }

        int allNeeds() {
            return allOf(needs);
        }

        int allKept() {
            return allOf(kepts);
        }

        private int allOf(Numbers row) {
            int all = 0;
            for (int one = 0; one < people; one++) {
                all += row.at(one);
            }
            return all;
        }

        int contentBits() {
            int bits = 0;
            for (int one = 0; one < people; one++) {
                if (hasOf(one) >= needs.at(one)) {
                    bits |= 1 << one;
                }
            }
            return bits;
        }

        int loansAboveNothing() {
            int loans = 0;
            for (int one = 0; one < people; one++) {
                for (int other = 0; other < people; other++) {
                    if (lentBy(one, other) > 0) {
                        loans++;
                    }
                }
            }
            return loans;
        }

        int mostSteps() {
            int most = NONE;
            for (int one = 0; one < people; one++) {
                for (int other = one + 1; other < people; other++) {
                    most = Math.max(most, stepsOf(one, other));
                }
            }
            return most;
        }

        int nearestPair() {
            int nearest = NONE;
            int least = MOST_STEPS + 1;
            for (int one = 0; one < people; one++) {
                for (int other = one + 1; other < people; other++) {
                    if (stepsOf(one, other) < least) {
                        least = stepsOf(one, other);
                        nearest = 10 * one + other;
                    }
                }
            }
            return nearest;
        }

        int leastSteps() {
            int pair = nearestPair();
            return pair == NONE ? NONE : stepsOf(pair / 10, pair % 10);
        }

        void setTotal(int v) {
            total = v;
            shareOut();
        }

        void setKept(int one, int v) {
            kepts.put(one, v);
        }

        void setNeed(int one, int v) {
            needs.put(one, v);
        }

        void setLent(int one, int other, int v) {
            putLent(one, other, v);
            netLoans();
        }

        private void putLent(int one, int other, int v) {
            lents.put(one * PEOPLE_ROOM + other, v);
        }

        void setKind(int one, int kind) {
            kinds.put(one, kind);
            weigh();
        }

        void setFigure(int one, int figure) {
            figures.put(one, figure);
            weigh();
        }

        void place(int one, int cell) {
            cells.put(one, cell);
            weigh();
        }

        /** One more comes, if there is room at all; how many may be there is the caller's to look at. */
        void add(int kind, int figure, int cell, int need) {
            if (people >= PEOPLE_ROOM) {
                return;
            }
            kinds.put(people, kind);
            figures.put(people, figure);
            cells.put(people, cell);
            needs.put(people, need);
            kepts.put(people, 0);
            for (int other = 0; other < PEOPLE_ROOM; other++) {
                putLent(people, other, 0);
                putLent(other, people, 0);
            }
            people++;
            netLoans();
            weigh();
        }

        /** One leaves; those behind him have a number less. */
        void remove(int gone) {
            if (!isThere(gone)) {
                return;
            }
            for (int one = gone; one + 1 < people; one++) {
                kinds.put(one, kinds.at(one + 1));
                figures.put(one, figures.at(one + 1));
                cells.put(one, cells.at(one + 1));
                needs.put(one, needs.at(one + 1));
                kepts.put(one, kepts.at(one + 1));
                for (int other = 0; other < people; other++) {
                    putLent(one, other, lentBy(one + 1, other));
                }
            }
            for (int other = gone; other + 1 < people; other++) {
                for (int one = 0; one < people; one++) {
                    putLent(one, other, lentBy(one, other + 1));
                }
            }
            people--;
            netLoans();
            weigh();
        }

        /** So many days: who is short on the last one (bits). */
        int passDays(int n) {
            int shortBits = 0;
            for (int i = 0; i < n; i++) {
                day++;
                shortBits = 0;
                for (int one = 0; one < people; one++) {
                    int kept = kepts.at(one) + hasOf(one) - needs.at(one);
                    if (kept < 0) {
                        shortBits |= 1 << one;
                    }
                    kepts.put(one, Math.max(0, Math.min(kept, MOST_KEPT)));
                }
            }
            return shortBits;
        }

        private void netLoans() {
            for (int one = 0; one < people; one++) {
                int net = 0;
                for (int other = 0; other < people; other++) {
                    net += lentBy(one, other) - lentBy(other, one);
                }
                nets.put(one, net);
            }
        }

        private void weigh() {
            weightOfAll = 0;
            for (int one = 0; one < people; one++) {
                int weight = weightNow(one);
                weights.put(one, weight);
                weightOfAll += weight;
            }
            shareOut();
        }

        private int weightNow(int one) {
            int far = 0;
            int nearest = MOST_STEPS;
            for (int other = 0; other < people; other++) {
                if (other != one) {
                    int apart = steps(cells.at(one), cells.at(other));
                    far += apart;
                    nearest = Math.min(nearest, apart);
                }
            }
            // What a kind is under weighs 1 at least itself, before the kind changes it.
            int person = Math.max(1, far);
            int shepherd = person + figures.at(one);
            int couple = Math.max(1, person / 2);
            switch (kinds.at(one)) {
                case SHEPHERD:
                    return shepherd;
                case WIDOW:
                    return 2 * person;
                case COUPLE:
                    return couple;
                case POET:
                    return nearest < POET_ALONE_STEPS ? shepherd : shepherd + POET_ALONE_MORE;
                case NEWCOMER:
                    return Math.max(1, couple - figures.at(one));
                default:
                    return person;
            }
        }

        private void shareOut() {
            int left = total;
            for (int one = 0; one < people; one++) {
                int share = weightOfAll > 0 ? total * weights.at(one) / weightOfAll : 0;
                shares.put(one, share);
                left -= share;
            }
            for (int one = 0; one < people && one < left; one++) {
                shares.put(one, shares.at(one) + 1);
            }
        }
    }

    /** What will be on days to come, each thought on a copy, so that the moor stays as it is. */
    private static final class DaysToCome {
        private final Moor moor;
        private final Moor thought;

        DaysToCome(Moor moor, Moor thought) {
            this.moor = moor;
            this.thought = thought;
        }

        int keptAfter(int one, int n) {
            thought.takeFrom(moor);
            thought.passDays(n);
            return thought.keptOf(one);
        }

        int shortDays(int one, int n) {
            thought.takeFrom(moor);
            int shorts = 0;
            for (int i = 0; i < n; i++) {
                shorts += (thought.passDays(1) >> one) & 1;
            }
            return shorts;
        }

        int firstShortDay() {
            thought.takeFrom(moor);
            for (int later = 1; later <= MOST_SMALL; later++) {
                if (thought.passDays(1) != 0) {
                    return later;
                }
            }
            return NONE;
        }

        int firstShortOne() {
            thought.takeFrom(moor);
            for (int later = 1; later <= MOST_SMALL; later++) {
                int shortBits = thought.passDays(1);
                for (int one = 0; one < moor.people(); one++) {
                    if (((shortBits >> one) & 1) != 0) {
                        return one;
                    }
                }
            }
            return NONE;
        }

        int daysTillShort(int one) {
            thought.takeFrom(moor);
            for (int lasted = 0; lasted < MOST_SMALL; lasted++) {
                if (((thought.passDays(1) >> one) & 1) != 0) {
                    return lasted;
                }
            }
            return MOST_SMALL;
        }

        int keptAfterVisits(int host, int guest, int n) {
            thought.takeFrom(moor);
            for (int i = 0; i < n; i++) {
                boolean visits = (thought.day() + 1) % 7 == 1;
                thought.place(guest, visits ? moor.cellOf(host) : moor.cellOf(guest));
                thought.passDays(1);
            }
            return thought.keptOf(guest);
        }

        int firstMistold(int one, Numbers told, int toldCount) {
            thought.takeFrom(moor);
            for (int i = 0; i < toldCount; i++) {
                if (Math.min(thought.keptOf(one), MOST_SMALL) != told.at(i)) {
                    return i;
                }
                thought.passDays(1);
            }
            return NONE;
        }
    }

    /** What shares would be if people were elsewhere, more, fewer, or others, each thought on a copy. */
    private static final class OtherMoors {
        private final Moor moor;
        private final Moor thought;
        private final Draw draw = new Draw();
        private final Numbers firstShares = new Numbers(CHOICES * CHOICES);
        private final Numbers secondShares = new Numbers(CHOICES * CHOICES);

        OtherMoors(Moor moor, Moor thought) {
            this.moor = moor;
            this.thought = thought;
        }

        int shareIn(int one, int cell) {
            thought.takeFrom(moor);
            thought.place(one, cell);
            return thought.shareOf(one);
        }

        int richestCell(int one) {
            thought.takeFrom(moor);
            int best = 0;
            int most = -1;
            for (int cell = 0; cell < CELLS; cell++) {
                thought.place(one, cell);
                if (thought.shareOf(one) > most) {
                    most = thought.shareOf(one);
                    best = cell;
                }
            }
            return best;
        }

        int kindCell(int one) {
            thought.takeFrom(moor);
            int best = 0;
            int most = -1;
            for (int cell = 0; cell < CELLS; cell++) {
                thought.place(one, cell);
                int least = leastShareBeside(one);
                if (least > most) {
                    most = least;
                    best = cell;
                }
            }
            return best;
        }

        private int leastShareBeside(int one) {
            int least = MOST_SUM;
            for (int other = 0; other < thought.people(); other++) {
                if (other != one) {
                    least = Math.min(least, thought.shareOf(other));
                }
            }
            return least;
        }

        int takenBy(int one, int other) {
            thought.takeFrom(moor);
            thought.remove(one);
            return thought.shareOf(numberWithout(one, other)) - moor.shareOf(other);
        }

        private int numberWithout(int gone, int one) {
            return one > gone ? one - 1 : one;
        }

        int worstFor(int one) {
            int worst = NONE;
            int most = 0;
            for (int other = 0; other < moor.people(); other++) {
                if (other != one) {
                    int taken = takenBy(other, one);
                    if (worst == NONE || taken > most) {
                        worst = other;
                        most = taken;
                    }
                }
            }
            return worst;
        }

        int sharesBesideOneMoreIn(int cell) {
            thought.takeFrom(moor);
            thought.add(PERSON, 0, cell, 0);
            return thought.total() - thought.shareOf(moor.people());
        }

        int bestSurveyCell() {
            int best = 0;
            int most = -1;
            for (int cell = 0; cell < CELLS; cell++) {
                int found = sharesBesideOneMoreIn(cell);
                if (found > most) {
                    most = found;
                    best = cell;
                }
            }
            return best;
        }

        int gainersWithout(int gone) {
            thought.takeFrom(moor);
            thought.remove(gone);
            int gainers = 0;
            for (int one = 0; one < moor.people(); one++) {
                if (one != gone && thought.hasOf(numberWithout(gone, one)) > moor.hasOf(one)) {
                    gainers++;
                }
            }
            return gainers;
        }

        int bestLeaver() {
            int best = NONE;
            int most = -1;
            for (int one = 0; one < moor.people(); one++) {
                int gainers = gainersWithout(one);
                if (gainers > most) {
                    most = gainers;
                    best = one;
                }
            }
            return best;
        }

        int quarrelCell(int one, int other, int k) {
            int best = NONE;
            int fewest = 0;
            for (int cell = 0; cell < CELLS; cell++) {
                int way = steps(moor.cellOf(one), cell);
                if (steps(cell, moor.cellOf(other)) > k && (best == NONE || way < fewest)) {
                    best = cell;
                    fewest = way;
                }
            }
            return best;
        }

        int firstSteadyPair(int a, int b) {
            weighChoices(a, b);
            for (int first = 0; first < CHOICES; first++) {
                for (int second = 0; second < CHOICES; second++) {
                    if (isSteady(first, second)) {
                        return 10 * first + second;
                    }
                }
            }
            return NONE;
        }

        private void weighChoices(int a, int b) {
            thought.takeFrom(moor);
            for (int first = 0; first < CHOICES; first++) {
                thought.place(a, chosenCell(moor.cellOf(a), first));
                for (int second = 0; second < CHOICES; second++) {
                    thought.place(b, chosenCell(moor.cellOf(b), second));
                    firstShares.put(first * CHOICES + second, thought.shareOf(a));
                    secondShares.put(first * CHOICES + second, thought.shareOf(b));
                }
            }
        }

        private boolean isSteady(int first, int second) {
            int pair = first * CHOICES + second;
            for (int another = 0; another < CHOICES; another++) {
                if (firstShares.at(another * CHOICES + second) > firstShares.at(pair)
                        || secondShares.at(first * CHOICES + another) > secondShares.at(pair)) {
                    return false;
                }
            }
            return true;
        }

        private int chosenCell(int cell, int choice) {
            switch (choice) {
                case UP:
                    return cell >= COLUMNS ? cell - COLUMNS : cell;
                case LEFT:
                    return cell % COLUMNS > 0 ? cell - 1 : cell;
                case RIGHT:
                    return cell % COLUMNS < COLUMNS - 1 ? cell + 1 : cell;
                case DOWN:
                    return cell + COLUMNS < CELLS ? cell + COLUMNS : cell;
                default:
                    return cell;
            }
        }

        int leastTotalForAll() {
            thought.takeFrom(moor);
            for (int total = 0; total <= MOST_SUM; total++) {
                thought.setTotal(total);
                if (Integer.bitCount(thought.contentBits()) == thought.people()) {
                    return total;
                }
            }
            return NONE;
        }

        int kindsTold(int one, Numbers told) {
            thought.takeFrom(moor);
            int bits = 0;
            for (int kind = 0; kind < KINDS; kind++) {
                thought.setKind(one, kind);
                if (sharesAreTold(told)) {
                    bits |= 1 << kind;
                }
            }
            return bits;
        }

        int figuresTold(int one, Numbers told) {
            thought.takeFrom(moor);
            int bits = 0;
            for (int figure = 0; figure <= MOST_FIGURE; figure++) {
                thought.setFigure(one, figure);
                if (sharesAreTold(told)) {
                    bits |= 1 << figure;
                }
            }
            return bits;
        }

        private boolean sharesAreTold(Numbers told) {
            for (int one = 0; one < thought.people(); one++) {
                if (Math.min(thought.shareOf(one), MOST_SMALL) != told.at(one)) {
                    return false;
                }
            }
            return true;
        }

        int firstSharesByLot(int n, int seed) {
            thought.takeFrom(moor);
            draw.begin(seed);
            int shares = 0;
            for (int i = 0; i < n; i++) {
                placeAllByLot();
                shares += thought.shareOf(0);
            }
            return shares;
        }

        int contentByLot(int n, int seed) {
            thought.takeFrom(moor);
            draw.begin(seed);
            int content = 0;
            for (int i = 0; i < n; i++) {
                placeAllByLot();
                content += Integer.bitCount(thought.contentBits());
            }
            return content;
        }

        private void placeAllByLot() {
            for (int one = 0; one < thought.people(); one++) {
                thought.place(one, draw.below(CELLS));
            }
        }
    }

    /** Who could give to whom, and how few loans would do. */
    private static final class Lending {
        private final Moor moor;
        private final Numbers spares = new Numbers(MOST_PEOPLE);
        private final Numbers lacks = new Numbers(MOST_PEOPLE);
        private final Numbers groups = new Numbers(SUBSETS);

        Lending(Moor moor) {
            this.moor = moor;
        }

        int lackingOfAll() {
            int lacking = 0;
            for (int one = 0; one < moor.people(); one++) {
                lacking += Math.max(0, moor.needOf(one) - moor.hasOf(one));
            }
            return lacking;
        }

        /**
         * The greatest flow is the least cut: for some of the people, what these have to spare and what
         * those lack who are near another who has something to spare is together never less than what
         * can be given, and for the best choice of them it is just that.
         */
        int mostGiven(int d) {
            for (int one = 0; one < moor.people(); one++) {
                int more = moor.hasOf(one) - moor.needOf(one);
                spares.put(one, Math.max(0, more));
                lacks.put(one, Math.max(0, -more));
            }
            int most = GREATEST;
            for (int some = 0; some < 1 << moor.people(); some++) {
                most = Math.min(most, cutBy(some, d));
            }
            return most;
        }

        private int cutBy(int some, int d) {
            int cut = 0;
            for (int one = 0; one < moor.people(); one++) {
                if (((some >> one) & 1) != 0) {
                    cut += spares.at(one);
                }
                if (lacks.at(one) > 0 && isNearGiverBeside(some, one, d)) {
                    cut += lacks.at(one);
                }
            }
            return cut;
        }

        private boolean isNearGiverBeside(int some, int poor, int d) {
            for (int one = 0; one < moor.people(); one++) {
                if (((some >> one) & 1) == 0 && spares.at(one) > 0 && moor.stepsOf(one, poor) <= d) {
                    return true;
                }
            }
            return false;
        }

        /**
         * People whose NETS together are 0 can settle among themselves with a loan less than they are:
         * the fewest loans are the people less the most groups of that sort into which they fall.
         */
        int fewestLoans() {
            int all = (1 << moor.people()) - 1;
            groups.put(0, 0);
            for (int some = 1; some <= all; some++) {
                int nets = 0;
                int most = 0;
                for (int one = 0; one < moor.people(); one++) {
                    if (((some >> one) & 1) != 0) {
                        nets += moor.netOf(one);
                        most = Math.max(most, groups.at(some & ~(1 << one)));
                    }
                }
                groups.put(some, nets == 0 ? most + 1 : most);
            }
            return moor.people() - groups.at(all);
        }
    }

    /** Draws from a seed, each from the number that the one before has left. */
    private static final class Draw {
        private int z = 0;

        void begin(int seed) {
            z = seed;
        }

        int below(int m) {
            z = z * 1664525 + 1013904223;
            return m > 0 ? ((z & GREATEST) / 256) % m : 0;
        }
    }

    /** The letters of a moor, and what they say. */
    private static final class Text {
        private final Numbers letters = new Numbers(MOST_LETTERS);
        private int length = 0;

        int length() {
            return length;
        }

        boolean hasRoom() {
            return length < MOST_LETTERS;
        }

        int append(int letter) {
            letters.put(length, letter);
            length++;
            return length;
        }

        void drop() {
            length = 0;
        }

        /** How many statements came to the moor, or the fault; with a fault some may have come. */
        int tellTo(Moor moor) {
            int wrong = firstWrongLetter();
            if (wrong >= 0) {
                return WRONG_LETTER - wrong;
            }
            int statements = 0;
            int place = 0;
            while (place < length) {
                if (!sayTo(moor, place)) {
                    return WRONG_STATEMENT - place;
                }
                statements++;
                place += Math.max(1, formAt(place).length());
            }
            return statements;
        }

        /** The place of the first letter with which no moor can go on; -1 if there is none. */
        private int firstWrongLetter() {
            int place = 0;
            while (place < length) {
                String form = formAt(place);
                if (form.isEmpty()) {
                    return place;
                }
                for (int i = 1; i < form.length(); i++) {
                    if (place + i >= length || !fits(letters.at(place + i), form.charAt(i))) {
                        return place + i;
                    }
                }
                place += form.length();
            }
            return length == 0 ? 0 : -1;
        }

        /** How the statement that begins at a place must be spelled; empty if none begins so. */
        private String formAt(int place) {
            switch (letters.at(place)) {
                case 'p':
                    return PERSON_FORM;
                case 'a':
                    return PLACE_FORM;
                case 'l':
                    return LOAN_FORM;
                case 'k':
                    return KEPT_FORM;
                case 's':
                    return SUM_FORM;
                case 'd':
                    return DAYS_FORM;
                default:
                    return "";
            }
        }

        private boolean fits(int letter, int asked) {
            switch (asked) {
                case DIGIT:
                    return letter >= '0' && letter <= '9';
                case KIND:
                    return kindOf(letter) >= 0;
                default:
                    return letter == asked;
            }
        }

        private int kindOf(int letter) {
            for (int kind = 0; kind < KIND_LETTERS.length(); kind++) {
                if (KIND_LETTERS.charAt(kind) == letter) {
                    return kind;
                }
            }
            return -1;
        }

        private int number(int place, int digits) {
            int number = 0;
            for (int i = 0; i < digits; i++) {
                number = 10 * number + letters.at(place + i) - '0';
            }
            return number;
        }

        /** The statement at a place is done to the moor; false, and nothing is, if it is not as it must be. */
        private boolean sayTo(Moor moor, int place) {
            int one = number(place + 1, 1);
            switch (letters.at(place)) {
                case 'p':
                    int kind = kindOf(letters.at(place + 1));
                    int home = number(place + 3, 2);
                    if (!isCell(home) || moor.people() >= MOST_PEOPLE) {
                        return false;
                    }
                    moor.add(kind, number(place + 2, 1), home, number(place + 5, 2));
                    return true;
                case 'a':
                    int cell = number(place + 2, 2);
                    if (!moor.isThere(one) || !isCell(cell)) {
                        return false;
                    }
                    moor.place(one, cell);
                    return true;
                case 'l':
                    int other = number(place + 2, 1);
                    if (!moor.areTwo(one, other)) {
                        return false;
                    }
                    moor.setLent(one, other, number(place + 3, 2));
                    return true;
                case 'k':
                    if (!moor.isThere(one)) {
                        return false;
                    }
                    moor.setKept(one, number(place + 2, 4));
                    return true;
                case 's':
                    moor.setTotal(number(place + 1, 3));
                    return true;
                default:
                    int n = number(place + 1, 2);
                    if (n < 1 || n > MOST_DAYS || moor.day() + n > MOST_DAY) {
                        return false;
                    }
                    moor.passDays(n);
                    return true;
            }
        }
    }
}
