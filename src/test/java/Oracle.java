import java.util.ArrayList;
import java.util.Arrays;
import java.util.HashMap;
import java.util.List;
import java.util.Map;
import java.util.regex.Matcher;
import java.util.regex.Pattern;

/**
 * The document once more, written apart from the program and by other means (people as objects, texts by
 * patterns, flows by augmenting, loans by trying): OracleTest asks both the same calls.
 */
final class Oracle {
    private static final String KIND_LETTERS = "pswcon";

    private static final class One {
        char kind;
        int figure;
        int cell;
        int need;
        int kept;
        Map<Integer, Integer> lent = new HashMap<>();
        int id;
    }

    private static final class World {
        List<One> people = new ArrayList<>();
        int sum = 360;
        int day = 0;

        World copy() {
            World w = new World();
            w.sum = sum;
            w.day = day;
            for (One o : people) {
                One c = new One();
                c.kind = o.kind;
                c.figure = o.figure;
                c.cell = o.cell;
                c.need = o.need;
                c.kept = o.kept;
                c.id = o.id;
                c.lent = new HashMap<>(o.lent);
                w.people.add(c);
            }
            return w;
        }

        static int steps(int a, int b) {
            int rows = a / 6 - b / 6;
            int columns = a % 6 - b % 6;
            return (rows < 0 ? -rows : rows) + (columns < 0 ? -columns : columns);
        }

        int weight(One o) {
            return weight(o, o.kind);
        }

        private int weight(One o, char kind) {
            int w = 0;
            switch (kind) {
                case 'p':
                    for (One x : people) {
                        w += steps(x.cell, o.cell);
                    }
                    break;
                case 's':
                    w = weight(o, 'p') + o.figure;
                    break;
                case 'w':
                    w = weight(o, 'p') * 2;
                    break;
                case 'c':
                    w = weight(o, 'p') / 2;
                    break;
                case 'o':
                    w = weight(o, 's');
                    boolean alone = true;
                    for (One x : people) {
                        if (x != o && steps(x.cell, o.cell) <= 2) {
                            alone = false;
                        }
                    }
                    w += alone ? 5 : 0;
                    break;
                default:
                    w = weight(o, 'c') - o.figure;
            }
            return w < 1 ? 1 : w;
        }

        Map<One, Integer> shares() {
            Map<One, Integer> shares = new HashMap<>();
            int all = people.stream().mapToInt(this::weight).sum();
            for (One o : people) {
                shares.put(o, sum * weight(o) / all);
            }
            int left = sum - shares.values().stream().mapToInt(i -> i).sum();
            for (One o : people) {
                if (left > 0) {
                    shares.merge(o, 1, Integer::sum);
                    left--;
                }
            }
            return shares;
        }

        int share(int i) {
            return shares().get(people.get(i));
        }

        int lent(One from, One to) {
            return from.lent.getOrDefault(to.id, 0);
        }

        int net(One o) {
            return people.stream().mapToInt(x -> lent(o, x) - lent(x, o)).sum();
        }

        int has(One o) {
            return shares().get(o) - net(o);
        }

        List<One> dayPasses() {
            day++;
            List<One> shorts = new ArrayList<>();
            Map<One, Integer> shares = shares();
            for (One o : people) {
                int more = shares.get(o) - net(o) - o.need;
                if (more >= 0) {
                    o.kept = Math.min(9999, o.kept + more);
                } else if (o.kept >= -more) {
                    o.kept += more;
                } else {
                    o.kept = 0;
                    shorts.add(o);
                }
            }
            return shorts;
        }

        boolean allHave() {
            return people.stream().allMatch(o -> has(o) >= o.need);
        }

        int haveCount() {
            return (int) people.stream().filter(o -> has(o) >= o.need).count();
        }

        One come(char kind, int figure, int cell, int need) {
            One o = new One();
            o.kind = kind;
            o.figure = figure;
            o.cell = cell;
            o.need = need;
            o.id = people.size();
            people.add(o);
            return o;
        }
    }

    private World now = new World();
    private World picture = null;
    private List<Integer> row = new ArrayList<>();
    private StringBuilder text = new StringBuilder();
    private final int[] refused = new int[7];

    private static final class Refused extends RuntimeException {
        final int number;

        Refused(int number) {
            super(null, null, false, false);
            this.number = number;
        }
    }

    int call(String name, int... a) {
        try {
            return answer(name, a);
        } catch (Refused r) {
            refused[-r.number]++;
            boolean far = Arrays.asList("owns", "takes", "newcomer", "net", "quarrel").contains(name);
            return far ? 1000000000 - r.number : r.number;
        }
    }

    private static void refuseIf(boolean is, int number) {
        if (is) {
            throw new Refused(number);
        }
    }

    private One one(int i) {
        refuseIf(i < 0 || i >= now.people.size(), -1);
        return now.people.get(i);
    }

    private void both(int i, int j) {
        one(i);
        one(j);
        refuseIf(i == j, -1);
    }

    private static void cell(int c) {
        refuseIf(c < 0 || c > 35, -1);
    }

    private static void range(int v, int least, int most) {
        refuseIf(v < least, -4);
        refuseIf(v > most, -6);
    }

    private static void what(int w, int most) {
        refuseIf(w < 0 || w > most, -2);
    }

    private int answer(String name, int[] a) {
        switch (name) {
            case "letter":
                range(a[0], 0, 255);
                refuseIf(text.length() == 96, -6);
                text.append((char) a[0]);
                return text.length();
            case "moor":
                return tell();
            case "person": {
                One o = one(a[0]);
                what(a[1], 6);
                return new int[] {KIND_LETTERS.indexOf(o.kind), o.figure, o.cell, o.need, o.kept, now.weight(o),
                    now.share(a[0])}[a[1]];
            }
            case "owns":
                return now.has(one(a[0]));
            case "loan":
                both(a[0], a[1]);
                return now.lent(one(a[0]), one(a[1]));
            case "go": {
                One o = one(a[0]);
                cell(a[1]);
                int was = o.cell;
                o.cell = a[1];
                return was;
            }
            case "lend": {
                both(a[0], a[1]);
                range(a[2], 0, 99);
                Integer was = one(a[0]).lent.put(a[1], a[2]);
                return was == null ? 0 : was;
            }
            case "keep": {
                One o = one(a[0]);
                range(a[1], 0, 9999);
                int was = o.kept;
                o.kept = a[1];
                return was;
            }
            case "need": {
                One o = one(a[0]);
                range(a[1], 0, 99);
                int was = o.need;
                o.need = a[1];
                return was;
            }
            case "sum": {
                range(a[0], 0, 999);
                int was = now.sum;
                now.sum = a[0];
                return was;
            }
            case "days": {
                range(a[0], 1, 60);
                refuseIf(now.day + a[0] > 999, -6);
                int shorts = 0;
                for (int i = 0; i < a[0]; i++) {
                    shorts = now.dayPasses().size();
                }
                return shorts;
            }
            case "count":
                return count(a[0]);
            default:
                return thought(name, a);
        }
    }

    private int count(int w) {
        switch (w) {
            case 0: return now.people.size();
            case 1: return now.day;
            case 2: return now.sum;
            case 3: return now.people.stream().mapToInt(now::weight).sum();
            case 4: return now.people.stream().mapToInt(o -> o.need).sum();
            case 5: return now.people.stream().mapToInt(o -> o.kept).sum();
            case 6: return row.size();
            case 7: return text.length();
            default: return w >= 11 && w <= 16 ? refused[w - 10] : -9;
        }
    }

    private int thought(String name, int[] a) {
        World w = now.copy();
        int size = w.people.size();
        switch (name) {
            case "behind": {
                one(a[0]);
                range(a[1], 0, 99);
                what(a[2], 1);
                int shorts = 0;
                for (int i = 0; i < a[1]; i++) {
                    shorts += w.dayPasses().contains(w.people.get(a[0])) ? 1 : 0;
                }
                return a[2] == 0 ? w.people.get(a[0]).kept : shorts;
            }
            case "firstShort": {
                what(a[0], 1);
                for (int i = 1; i <= 99; i++) {
                    List<One> shorts = w.dayPasses();
                    if (!shorts.isEmpty()) {
                        return a[0] == 0 ? i : w.people.indexOf(shorts.get(0));
                    }
                }
                return -9;
            }
            case "lasts": {
                one(a[0]);
                int lasted = 0;
                while (lasted < 99 && !w.dayPasses().contains(w.people.get(a[0]))) {
                    lasted++;
                }
                return lasted;
            }
            case "bestCell": {
                one(a[0]);
                what(a[1], 2);
                int[] his = new int[36];
                int[] least = new int[36];
                for (int c = 0; c < 36; c++) {
                    w.people.get(a[0]).cell = c;
                    his[c] = w.share(a[0]);
                    int l = 1000;
                    for (int i = 0; i < size; i++) {
                        l = i == a[0] ? l : Math.min(l, w.share(i));
                    }
                    least[c] = l;
                }
                int best = argMax(his);
                return a[1] == 0 ? best : a[1] == 1 ? his[best] : argMax(least);
            }
            case "takes":
                both(a[0], a[1]);
                return takes(a[0], a[1]);
            case "worst": {
                one(a[0]);
                int worst = -9;
                for (int i = size - 1; i >= 0; i--) {
                    if (i != a[0] && (worst < 0 || takes(i, a[0]) >= takes(worst, a[0]))) {
                        worst = i;
                    }
                }
                return worst;
            }
            case "newcomer": {
                cell(a[0]);
                what(a[1], 1);
                if (size == 6) {
                    return -9;
                }
                int before = now.shares().values().stream().mapToInt(i -> i).sum();
                w.come('p', 0, a[0], 0);
                return a[1] == 0 ? w.share(size) : before - others(w);
            }
            case "leaves": {
                what(a[0], 1);
                int best = -9;
                int most = -9;
                for (int i = 0; i < size; i++) {
                    World without = now.copy();
                    without.people.remove(i);
                    int gain = 0;
                    for (One o : without.people) {
                        gain += without.has(o) > now.has(now.people.get(o.id)) ? 1 : 0;
                    }
                    if (gain > most) {
                        most = gain;
                        best = i;
                    }
                }
                return a[0] == 0 ? best : most;
            }
            default:
                return thoughtMore(name, a, w, size);
        }
    }

    private int thoughtMore(String name, int[] a, World w, int size) {
        switch (name) {
            case "enough": {
                int bits = 0;
                for (int i = 0; i < size; i++) {
                    bits += w.has(w.people.get(i)) >= w.people.get(i).need ? 1 << i : 0;
                }
                return bits;
            }
            case "help": {
                range(a[0], 0, 10);
                what(a[1], 1);
                return help(w, a[0], a[1]);
            }
            case "net":
                return now.net(one(a[0]));
            case "loans": {
                what(a[0], 1);
                if (a[0] == 0) {
                    int loans = 0;
                    for (One o : w.people) {
                        for (One x : w.people) {
                            loans += o != x && w.lent(o, x) > 0 ? 1 : 0;
                        }
                    }
                    return loans;
                }
                int[] nets = new int[size];
                for (int i = 0; i < size; i++) {
                    nets[i] = w.net(w.people.get(i));
                }
                return settle(nets, 0);
            }
            case "survey":
                cell(a[0]);
                w.come('p', 0, a[0], 0);
                return others(w);
            case "bestSurvey": {
                int[] found = new int[36];
                for (int c = 0; c < 36; c++) {
                    World x = now.copy();
                    x.come('p', 0, c, 0);
                    found[c] = others(x);
                }
                return argMax(found);
            }
            case "quarrel": {
                both(a[0], a[1]);
                range(a[2], 1, 10);
                what(a[3], 1);
                int home = one(a[0]).cell;
                for (int way = 0; way <= 10; way++) {
                    for (int c = 0; c < 36; c++) {
                        if (World.steps(home, c) == way && World.steps(c, one(a[1]).cell) > a[2]) {
                            w.people.get(a[0]).cell = c;
                            return a[3] == 0 ? c : w.share(a[0]) - now.share(a[0]);
                        }
                    }
                }
                return -9;
            }
            case "two": {
                both(a[0], a[1]);
                for (int i = 0; i < 5; i++) {
                    for (int j = 0; j < 5; j++) {
                        boolean steady = true;
                        for (int k = 0; k < 5; k++) {
                            steady &= chosen(a, k, j)[0] <= chosen(a, i, j)[0];
                            steady &= chosen(a, i, k)[1] <= chosen(a, i, j)[1];
                        }
                        if (steady) {
                            return 10 * i + j;
                        }
                    }
                }
                return -9;
            }
            case "crowd": {
                what(a[0], 2);
                int[] found = {-9, -9, -9};
                for (int i = size - 1; i >= 0; i--) {
                    for (int j = size - 1; j > i; j--) {
                        int s = World.steps(w.people.get(i).cell, w.people.get(j).cell);
                        if (found[0] < 0 || s <= found[0]) {
                            found[0] = s;
                            found[2] = 10 * i + j;
                        }
                        found[1] = Math.max(found[1], s);
                    }
                }
                return found[a[0]];
            }
            case "raise":
                for (w.sum = 0; w.sum <= 999; w.sum++) {
                    if (w.allHave()) {
                        return w.sum;
                    }
                }
                return -9;
            default:
                return thoughtLast(name, a, w, size);
        }
    }

    private int thoughtLast(String name, int[] a, World w, int size) {
        switch (name) {
            case "easter": {
                both(a[0], a[1]);
                range(a[2], 0, 99);
                One guest = w.people.get(a[1]);
                int home = guest.cell;
                for (int i = 1; i <= a[2]; i++) {
                    guest.cell = (now.day + i) % 7 == 1 ? one(a[0]).cell : home;
                    w.dayPasses();
                }
                return guest.kept;
            }
            case "whatIs": {
                one(a[0]);
                what(a[1], 1);
                refuseIf(row.size() != size, -3);
                int bits = 0;
                for (int i = 0; i < (a[1] == 0 ? 6 : 10); i++) {
                    World x = now.copy();
                    if (a[1] == 0) {
                        x.people.get(a[0]).kind = KIND_LETTERS.charAt(i);
                    } else {
                        x.people.get(a[0]).figure = i;
                    }
                    List<Integer> seen = new ArrayList<>();
                    for (int j = 0; j < size; j++) {
                        seen.add(Math.min(99, x.share(j)));
                    }
                    bits += seen.equals(row) ? 1 << i : 0;
                }
                return bits;
            }
            case "row":
                range(a[0], 0, 99);
                refuseIf(row.size() == 12, -6);
                row.add(a[0]);
                return row.size();
            case "judge": {
                one(a[0]);
                int bad = -9;
                for (int i = 0; i < row.size() && bad < 0; i++) {
                    World x = now.copy();
                    for (int j = 0; j < i; j++) {
                        x.dayPasses();
                    }
                    bad = Math.min(99, x.people.get(a[0]).kept) == row.get(i) ? -9 : i;
                }
                row.clear();
                return bad;
            }
            case "clear": {
                int had = row.size();
                row.clear();
                return had;
            }
            case "lots": {
                range(a[0], 1, 20);
                what(a[2], 1);
                refuseIf(size == 0, -3);
                int[] z = {a[1]};
                int found = 0;
                for (int i = 0; i < a[0]; i++) {
                    for (One o : w.people) {
                        z[0] = (int) (z[0] * 1664525L + 1013904223L);
                        o.cell = ((z[0] << 1) >>> 9) % 36;
                    }
                    found += a[2] == 0 ? w.share(0) : w.haveCount();
                }
                return found;
            }
            case "image":
                picture = now.copy();
                return now.day;
            case "on":
                refuseIf(picture == null, -3);
                now = picture.copy();
                return now.day;
            default:
                throw new IllegalStateException(name);
        }
    }

    private static int argMax(int[] v) {
        int best = 0;
        for (int i = 0; i < v.length; i++) {
            best = v[i] > v[best] ? i : best;
        }
        return best;
    }

    private int takes(int i, int other) {
        World w = now.copy();
        One o = w.people.get(other);
        w.people.remove(i);
        return w.shares().get(o) - now.share(other);
    }

    /** Shares of all but the last one. */
    private static int others(World w) {
        int found = 0;
        for (int i = 0; i + 1 < w.people.size(); i++) {
            found += w.share(i);
        }
        return found;
    }

    private int[] chosen(int[] pair, int i, int j) {
        World w = now.copy();
        step(w.people.get(pair[0]), i);
        step(w.people.get(pair[1]), j);
        return new int[] {w.share(pair[0]), w.share(pair[1])};
    }

    private static void step(One o, int choice) {
        int y = o.cell / 6 + (choice == 1 ? -1 : choice == 4 ? 1 : 0);
        int x = o.cell % 6 + (choice == 2 ? -1 : choice == 3 ? 1 : 0);
        if (x >= 0 && x < 6 && y >= 0 && y < 6) {
            o.cell = 6 * y + x;
        }
    }

    /** Pushes one unit after another along augmenting ways. */
    private static int help(World w, int d, int what) {
        int n = w.people.size();
        int[][] room = new int[n + 2][n + 2];
        int lack = 0;
        for (int i = 0; i < n; i++) {
            One o = w.people.get(i);
            int more = w.has(o) - o.need;
            room[n][i] = Math.max(0, more);
            room[i][n + 1] = Math.max(0, -more);
            lack += Math.max(0, -more);
            for (int j = 0; j < n; j++) {
                One x = w.people.get(j);
                if (more > 0 && w.has(x) < x.need && World.steps(o.cell, x.cell) <= d) {
                    room[i][j] = 1 << 20;
                }
            }
        }
        int flow = 0;
        while (push(room, n, n + 1, new boolean[n + 2])) {
            flow++;
        }
        return what == 0 ? flow : flow == lack ? 1 : 0;
    }

    private static boolean push(int[][] room, int at, int end, boolean[] seen) {
        if (at == end) {
            return true;
        }
        seen[at] = true;
        for (int to = 0; to < room.length; to++) {
            if (!seen[to] && room[at][to] > 0 && push(room, to, end, seen)) {
                room[at][to]--;
                room[to][at]++;
                return true;
            }
        }
        return false;
    }

    /** Settles the first who is not at 0 with each one of the other sign, and goes on. */
    private static int settle(int[] nets, int from) {
        while (from < nets.length && nets[from] == 0) {
            from++;
        }
        if (from == nets.length) {
            return 0;
        }
        int fewest = 99;
        for (int j = from + 1; j < nets.length; j++) {
            if ((nets[from] < 0) != (nets[j] < 0) && nets[j] != 0) {
                nets[j] += nets[from];
                fewest = Math.min(fewest, 1 + settle(nets, from + 1));
                nets[j] -= nets[from];
            }
        }
        return fewest;
    }

    private int tell() {
        String t = text.toString();
        text = new StringBuilder();
        Pattern statement = Pattern.compile(
            "p([pswcon])(\\d)(\\d\\d)(\\d\\d);|a(\\d)(\\d\\d);|l(\\d)(\\d)(\\d\\d);|k(\\d)(\\d{4});|s(\\d{3});|d(\\d\\d);");
        Pattern whole = Pattern.compile("(?:" + statement.pattern() + ")+");
        // The first letter with which nothing can go on: the longest head that more letters could mend.
        if (!whole.matcher(t).matches()) {
            int good = 0;
            while (good < t.length()) {
                Matcher m = whole.matcher(t.substring(0, good + 1));
                if (!m.matches() && !m.hitEnd()) {
                    break;
                }
                good++;
            }
            return -1000 - good;
        }
        World w = now.copy();
        Matcher m = statement.matcher(t);
        int statements = 0;
        while (m.find()) {
            if (!say(w, m.group())) {
                return -2000 - m.start();
            }
            statements++;
        }
        now = w;
        return statements;
    }

    private static int num(String s, int from, int to) {
        return Integer.parseInt(s.substring(from, to));
    }

    private static boolean say(World w, String s) {
        int first = s.charAt(1) - '0';
        int n = w.people.size();
        switch (s.charAt(0)) {
            case 'p':
                if (n == 6 || num(s, 3, 5) > 35) {
                    return false;
                }
                w.come(s.charAt(1), num(s, 2, 3), num(s, 3, 5), num(s, 5, 7));
                return true;
            case 'a':
                if (first >= n || num(s, 2, 4) > 35) {
                    return false;
                }
                w.people.get(first).cell = num(s, 2, 4);
                return true;
            case 'l':
                int second = s.charAt(2) - '0';
                if (first >= n || second >= n || first == second) {
                    return false;
                }
                w.people.get(first).lent.put(second, num(s, 3, 5));
                return true;
            case 'k':
                if (first >= n) {
                    return false;
                }
                w.people.get(first).kept = num(s, 2, 6);
                return true;
            case 's':
                w.sum = num(s, 1, 4);
                return true;
            default:
                int days = num(s, 1, 3);
                if (days < 1 || days > 60 || w.day + days > 999) {
                    return false;
                }
                for (int i = 0; i < days; i++) {
                    w.dayPasses();
                }
                return true;
        }
    }
}
