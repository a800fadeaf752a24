import java.math.BigInteger;
import java.util.ArrayList;
import java.util.Arrays;
import java.util.List;
import java.util.Random;

/** The class beside a model of the document that tries everything out, on coaches drawn from fixed seeds. */
public final class ModelTest {
    private static final int COACHES = 3000;
    private static final long[] LEAST = {-128, -32768, -2147483648L};

    private static int wrong = 0;

    /** One who sits in a row. */
    private record Person(int kind, int figure) {
        int knees() {
            int tall = 6 + figure / 3;
            return new int[] {2, 2, tall, 1, 2, 2, 0, tall + 1}[kind];
        }

        int wants(int ahead, boolean night) {
            int shy = ahead / 2;
            return new int[] {ahead, night ? 10 : ahead, ahead + 2, figure, shy, shy > 0 ? shy - 1 : 0, 0, 0}[kind];
        }

        int worth(boolean night) {
            int tall = figure / 2 + 1;
            return new int[] {1, night ? 3 : 1, tall, 0, 1, 1, 0, tall - 1}[kind];
        }
    }

    /** The coach as it is; rounds make new tips and leave the old ones. */
    private static final class Model {
        List<Person> people = new ArrayList<>();
        boolean[] blocked = new boolean[8];
        int[] tips = new int[8];
        int hour = 22;
        int trip = 0;

        Model same() {
            Model other = new Model();
            other.people = new ArrayList<>(people);
            other.blocked = blocked.clone();
            other.tips = tips.clone();
            other.hour = hour;
            other.trip = trip;
            return other;
        }

        boolean night() {
            return List.of(22, 23, 0, 1, 2, 3, 4, 5).contains(hour);
        }

        int size() {
            return people.size();
        }

        int can(int row) {
            return row == size() - 1 || blocked[row] ? 0 : Math.max(0, 10 - people.get(row + 1).knees());
        }

        int room(int row) {
            return 20 + tips[row] - (row == 0 ? 0 : tips[row - 1]);
        }

        int joy(int row) {
            return people.get(row).worth(night()) * (room(row) - 20);
        }

        int joy() {
            int sum = 0;
            for (int i = 0; i < size(); i++) {
                sum += joy(i);
            }
            return sum;
        }

        int sum() {
            return Arrays.stream(tips).sum();
        }

        Model on(int n) {
            Model then = same();
            for (int k = 0; k < n; k++) {
                int[] next = new int[8];
                for (int i = 0; i < size(); i++) {
                    int ahead = i == 0 ? 0 : then.tips[i - 1];
                    next[i] = Math.min(people.get(i).wants(ahead, night()), can(i));
                }
                then.tips = next;
            }
            return then;
        }

        Model blocking(int rows) {
            Model other = same();
            for (int i = 0; i < 8; i++) {
                if ((rows >> i & 1) != 0) {
                    other.blocked[i] = true;
                    other.tips[i] = 0;
                }
            }
            return other;
        }

        Model upright() {
            Model other = same();
            other.tips = new int[8];
            return other;
        }

        Model at(int h) {
            Model other = same();
            other.hour = h;
            return other;
        }

        Model seated(List<Person> those) {
            Model other = same();
            other.people = those;
            return other;
        }
    }

    private static void due(int coach, String call, long got, long want) {
        if (got != want) {
            wrong++;
            if (wrong < 40) {
                System.out.println("coach " + coach + ": " + call + " answered " + got + ", due is " + want);
            }
        }
    }

    public static void main(String[] args) {
        Random draws = new Random(20261118L);
        for (int c = 0; c < COACHES; c++) {
            Model m = drawn(draws);
            rowsOn(c, draws, m);
            bestAndLaws(c, draws, m);
            orders(c, draws, m);
            blocksAndHours(c, draws, m);
            chances(c, draws, m);
            told(c, draws, m);
            trips(c, draws, m);
            texts(c, draws, m);
        }
        System.out.println(wrong == 0 ? "the model answers likewise" : wrong + " answers are not the model's");
        if (wrong != 0) {
            System.exit(1);
        }
    }

    private static Model drawn(Random draws) {
        Model m = new Model();
        int size = draws.nextInt(9);
        for (int i = 0; i < size; i++) {
            m.people.add(new Person(draws.nextInt(8), draws.nextInt(10)));
        }
        m.hour = draws.nextInt(24);
        for (int i = 0; i < size; i++) {
            m.blocked[i] = draws.nextInt(6) == 0;
        }
        for (int i = 0; i < size; i++) {
            m.tips[i] = draws.nextInt(2) * draws.nextInt(m.can(i) + 1);
        }
        return m;
    }

    /** The same coach in a new object, by single calls. */
    private static TippedIntoTheNextLap made(Model m) {
        TippedIntoTheNextLap x = new TippedIntoTheNextLap();
        for (int i = 0; i < m.size(); i++) {
            x.keep(6, 1, m.people.get(i).kind(), m.people.get(i).figure());
            x.comes(6);
        }
        x.hour(m.hour);
        for (int i = 0; i < m.size(); i++) {
            if (m.blocked[i]) {
                x.blocks(i);
            }
            x.tips(i, m.tips[i]);
        }
        return x;
    }

    private static int rounds(Random draws) {
        return draws.nextInt(4) == 0 ? draws.nextInt(61) : draws.nextInt(10);
    }

    private static void dueSame(int c, TippedIntoTheNextLap x, Model m) {
        due(c, "people", x.count(0), m.size());
        due(c, "hour", x.count(1), m.hour);
        due(c, "trip", x.count(2), m.trip);
        due(c, "all tips", x.count(3), m.sum());
        int blocked = 0;
        int tipping = 0;
        int room = 0;
        for (int i = 0; i < m.size(); i++) {
            int[] seat = {m.people.get(i).kind(), m.people.get(i).figure(), m.tips[i], m.blocked[i] ? 1 : 0, m.can(i),
                m.people.get(i).knees(), m.people.get(i).worth(m.night()), m.room(i)};
            for (int w = 0; w < seat.length; w++) {
                due(c, "seat(" + i + ", " + w + ")", x.seat(i, w), seat[w]);
            }
            blocked += seat[3] << i;
            tipping += (m.tips[i] > 0 ? 1 : 0) << i;
            room += seat[7];
        }
        due(c, "blocked", x.count(4), blocked);
        due(c, "all room", x.count(5), room);
        due(c, "rows that tip", x.count(6), tipping);
        BigInteger people = BigInteger.valueOf(Math.max(1, m.size()));
        BigInteger common = people.gcd(BigInteger.valueOf(room));
        due(c, "mean above", x.mean(0), BigInteger.valueOf(room).divide(common).longValue());
        due(c, "mean below", x.mean(1), people.divide(common).longValue());
    }

    private static void rowsOn(int c, Random draws, Model m) {
        TippedIntoTheNextLap x = made(m);
        dueSame(c, x, m);
        int n = rounds(draws);
        Model then = m.on(n);
        int longest = 0;
        int begins = -4;
        int tightest = -4;
        for (int i = m.size() - 1; i >= 0; i--) {
            due(c, "behind " + n, x.behind(i, n, 0), then.tips[i]);
            due(c, "room behind " + n, x.behind(i, n, 1), then.room(i));
            int end = i;
            while (end < m.size() && then.tips[end] > 0) {
                end++;
            }
            due(c, "run", x.run(i, n), end - i);
            if (end > i && end - i >= longest) {
                longest = end - i;
                begins = i;
            }
            if (tightest < 0 || m.room(i) <= m.room(tightest)) {
                tightest = i;
            }
        }
        due(c, "longest", x.longest(n, 0), begins);
        due(c, "how many", x.longest(n, 1), longest);
        due(c, "lost", x.lost(n), then.joy());
        due(c, "tightest", x.tightest(0), tightest);
        due(c, "room of it", x.tightest(1), tightest < 0 ? -4 : m.room(tightest));
        int still = 0;
        while (still <= 60 && !Arrays.equals(m.on(still).tips, m.on(still + 1).tips)) {
            still++;
        }
        due(c, "still", x.still(), still > 60 ? -4 : still);
        int began = -4;
        int least = then.sum();
        int asked = -4;
        int most = Integer.MIN_VALUE;
        for (int i = 0; i < m.size(); i++) {
            Model without = m.blocking(1 << i).on(n);
            if (without.sum() < least) {
                least = without.sum();
                began = i;
            }
            if (without.joy() > most) {
                most = without.joy();
                asked = i;
            }
        }
        due(c, "began", x.began(n), began);
        due(c, "ask", x.ask(n), asked);
        dueSame(c, x, m);
        if (n > 0) {
            due(c, "rounds", x.rounds(n), then.sum());
            then.trip = n;
            dueSame(c, x, then);
        }
    }

    /** All tips that can be, from the least on; only for coaches of few rows. */
    private static int[] bestByTrial(Model m) {
        int[] best = new int[8];
        int most = Integer.MIN_VALUE;
        Model t = m.upright();
        while (true) {
            if (t.joy() > most) {
                most = t.joy();
                best = t.tips.clone();
            }
            int i = m.size() - 1;
            while (i >= 0 && t.tips[i] == m.can(i)) {
                t.tips[i] = 0;
                i--;
            }
            if (i < 0) {
                return best;
            }
            t.tips[i]++;
        }
    }

    private static void bestAndLaws(int c, Random draws, Model m) {
        TippedIntoTheNextLap x = made(m);
        if (m.size() <= 4) {
            Model best = m.same();
            best.tips = bestByTrial(m);
            due(c, "best", x.best(-1), best.joy());
            for (int i = 0; i < m.size(); i++) {
                due(c, "best(" + i + ")", x.best(i), best.tips[i]);
            }
        }
        Model all = m.same();
        for (int i = 0; i < m.size(); i++) {
            all.tips[i] = m.can(i);
        }
        int[] joys = {m.on(60).joy(), 0, all.joy()};
        int law = joys[0] >= joys[1] && joys[0] >= joys[2] ? 0 : joys[1] >= joys[2] ? 1 : 2;
        for (int i = 0; i < 3; i++) {
            due(c, "laws(" + i + ")", x.laws(i), joys[i]);
        }
        due(c, "laws", x.laws(-1), law);
        for (int i = 0; i + 1 < m.size(); i++) {
            Model without = m.same();
            without.tips[i] = 0;
            int won = without.joy(i + 1) - m.joy(i + 1);
            int lost = m.joy(i) - without.joy(i);
            due(c, "pays", x.pays(i), won - lost);
            due(c, "price", x.price(i), (won + lost) / 2);
            due(c, "two", x.two(i), twoByTrial(m, i));
        }
        dueSame(c, x, m);
    }

    private static int twoByTrial(Model m, int row) {
        int[][] first = new int[2][2];
        int[][] other = new int[2][2];
        for (int a = 0; a < 2; a++) {
            for (int b = 0; b < 2; b++) {
                Model t = m.same();
                t.tips[row] = a == 1 ? m.can(row) : 0;
                t.tips[row + 1] = b == 1 ? m.can(row + 1) : 0;
                first[a][b] = t.joy(row);
                other[a][b] = t.joy(row + 1);
            }
        }
        for (int a = 0; a < 2; a++) {
            for (int b = 0; b < 2; b++) {
                if (first[1 - a][b] <= first[a][b] && other[a][1 - b] <= other[a][b]) {
                    return 10 * a + b;
                }
            }
        }
        return -4;
    }

    private static void allOrders(int size, List<Integer> sofar, List<List<Integer>> found) {
        if (sofar.size() == size) {
            found.add(new ArrayList<>(sofar));
        }
        for (int i = 0; i < size; i++) {
            if (!sofar.contains(i)) {
                sofar.add(i);
                allOrders(size, sofar, found);
                sofar.remove(sofar.size() - 1);
            }
        }
    }

    private static void orders(int c, Random draws, Model m) {
        TippedIntoTheNextLap x = made(m);
        int n = draws.nextInt(10);
        if (m.size() > 6) {
            due(c, "order", x.order(n, m.size() - 1), 1000000003);
        } else if (c % 4 == 0) {
            List<List<Integer>> all = new ArrayList<>();
            allOrders(m.size(), new ArrayList<>(), all);
            int most = Integer.MIN_VALUE;
            List<Integer> best = null;
            for (List<Integer> order : all) {
                List<Person> those = new ArrayList<>();
                for (int who : order) {
                    those.add(m.people.get(who));
                }
                int joy = m.upright().seated(those).on(n).joy();
                if (joy > most) {
                    most = joy;
                    best = order;
                }
            }
            due(c, "order(" + n + ")", x.order(n, -1), most);
            for (int i = 0; i < m.size(); i++) {
                due(c, "order(" + n + ", " + i + ")", x.order(n, i), best.get(i));
            }
        }
        int k = rounds(draws);
        int most = m.upright().on(k).joy();
        int swap = -4;
        for (int a = 0; a < m.size(); a++) {
            for (int b = a + 1; b < m.size(); b++) {
                List<Person> those = new ArrayList<>(m.people);
                those.set(a, m.people.get(b));
                those.set(b, m.people.get(a));
                int joy = m.upright().seated(those).on(k).joy();
                if (joy > most) {
                    most = joy;
                    swap = 10 * a + b;
                }
            }
        }
        due(c, "swap(" + k + ")", x.swap(k), swap);
        dueSame(c, x, m);
    }

    private static void blocksAndHours(int c, Random draws, Model m) {
        TippedIntoTheNextLap x = made(m);
        int n = 1 + draws.nextInt(9);
        int stops = -1;
        for (int many = 0; many <= m.size() && stops < 0; many++) {
            for (int rows = 0; rows < 1 << m.size() && stops < 0; rows++) {
                if (Integer.bitCount(rows) == many && m.blocking(rows).on(n).sum() == 0) {
                    stops = rows;
                }
            }
        }
        due(c, "stops(" + n + ")", x.stops(n), stops);
        int hour = 0;
        for (int h = 0; h < 24; h++) {
            if (m.at(h).on(n).joy() > m.at(hour).on(n).joy()) {
                hour = h;
            }
        }
        due(c, "bestHour(" + n + ")", x.bestHour(n), hour);
        dueSame(c, x, m);
    }

    private static void chances(int c, Random draws, Model m) {
        TippedIntoTheNextLap x = made(m);
        int t = 2 + draws.nextInt(19);
        int v = draws.nextInt(3) == 0 ? draws.nextInt(81) : draws.nextInt(30);
        Model then = m.on(1);
        List<Integer> watchers = new ArrayList<>();
        for (int i = 0; i + 1 < m.size(); i++) {
            if (m.people.get(i + 1).kind() == 3 || m.people.get(i + 1).kind() == 6) {
                watchers.add(i);
            }
        }
        BigInteger likely = BigInteger.ZERO;
        for (int seen = 0; seen < 1 << watchers.size(); seen++) {
            int sum = then.sum();
            BigInteger weight = BigInteger.ONE;
            for (int i = 0; i < watchers.size(); i++) {
                if ((seen >> i & 1) != 0) {
                    sum -= then.tips[watchers.get(i)];
                } else {
                    weight = weight.multiply(BigInteger.valueOf(t - 1));
                }
            }
            likely = sum <= v ? likely.add(weight) : likely;
        }
        BigInteger all = BigInteger.valueOf(t).pow(watchers.size());
        BigInteger common = likely.gcd(all);
        due(c, "looksRound above", x.looksRound(t, v, 0), likely.divide(common).longValue());
        due(c, "looksRound below", x.looksRound(t, v, 1), all.divide(common).longValue());
        dueSame(c, x, m);
    }

    private static void putAll(TippedIntoTheNextLap x, int d, int sort, int[] numbers) {
        x.row(d, sort, numbers.length);
        for (int i = 0; i < numbers.length; i++) {
            x.put(d, i, numbers[i]);
        }
    }

    private static void told(int c, Random draws, Model m) {
        TippedIntoTheNextLap x = made(m);
        int sort = draws.nextInt(3);
        int[] tips = new int[draws.nextInt(12)];
        int forged = -4;
        for (int i = tips.length - 1; i >= 0; i--) {
            tips[i] = i < m.size() ? draws.nextInt(m.can(i) + 1) : 0;
            tips[i] += draws.nextInt(8) == 0 ? draws.nextInt(3) - 1 : 0;
            forged = i >= m.size() || tips[i] < 0 || tips[i] > m.can(i) ? i : forged;
        }
        putAll(x, 0, sort, tips);
        due(c, "forged", x.forged(0), forged);
        int[] sums = new int[draws.nextInt(14)];
        int judged = -4;
        for (int i = sums.length - 1; i >= 0; i--) {
            int sum = m.on(i).sum();
            sums[i] = draws.nextInt(5) == 0 ? (int) LEAST[sort] : sum + (draws.nextInt(12) == 0 ? 1 : 0);
            judged = sums[i] != LEAST[sort] && sums[i] != sum ? i : judged;
        }
        putAll(x, 1, sort, sums);
        due(c, "judge", x.judge(1), judged);
        if (m.size() > 0) {
            whatHeIs(c, draws, m, x, sort);
        }
        dueSame(c, x, m);
    }

    private static void whatHeIs(int c, Random draws, Model m, TippedIntoTheNextLap x, int sort) {
        int row = draws.nextInt(m.size());
        Person he = m.people.get(row);
        boolean byKind = draws.nextBoolean();
        Model guess = sitting(m, row, byKind
            ? new Person(draws.nextInt(8), he.figure()) : new Person(he.kind(), draws.nextInt(10)));
        int[] tips = new int[draws.nextInt(12)];
        for (int i = 0; i < tips.length; i++) {
            int told = guess.on(i).tips[row] + (draws.nextInt(30) == 0 ? 1 : 0);
            tips[i] = draws.nextInt(4) == 0 ? (int) LEAST[sort] : told;
        }
        int kinds = 0;
        int figures = 0;
        for (int k = 0; k < 8; k++) {
            kinds |= tipsSo(sitting(m, row, new Person(k, he.figure())), row, tips, LEAST[sort]) ? 1 << k : 0;
        }
        for (int f = 0; f < 10; f++) {
            figures |= tipsSo(sitting(m, row, new Person(he.kind(), f)), row, tips, LEAST[sort]) ? 1 << f : 0;
        }
        putAll(x, 2, sort, tips);
        due(c, "whatIs kinds", x.whatIs(2, row, 0), kinds);
        due(c, "whatIs figures", x.whatIs(2, row, 1), figures);
    }

    private static boolean tipsSo(Model m, int row, int[] tips, long skipped) {
        boolean so = true;
        for (int i = 0; i < tips.length && so; i++) {
            so = tips[i] == skipped || tips[i] == m.on(i).tips[row];
        }
        return so;
    }

    private static Model sitting(Model m, int row, Person who) {
        List<Person> those = new ArrayList<>(m.people);
        those.set(row, who);
        return m.seated(those);
    }

    private static long seed;

    private static int draw(int below) {
        seed = (seed * 1103515245L + 12345L) & 0xffffffffL;
        return (int) ((seed % 2147483648L) / 65536L % below);
    }

    private static void trips(int c, Random draws, Model m) {
        TippedIntoTheNextLap x = made(m);
        int n = 1 + draws.nextInt(20);
        int z = draws.nextInt();
        int sum = 0;
        int rows = 0;
        seed = z & 0xffffffffL;
        for (int k = 0; k < n; k++) {
            Model t = m.upright().at(draw(24));
            for (int i = 0; i < m.size(); i++) {
                t.blocked[i] = draw(5) == 0;
            }
            t = t.on(5);
            sum += t.sum();
            rows += (int) Arrays.stream(t.tips).filter(tip -> tip > 0).count();
        }
        due(c, "trips tips", x.trips(n, z, 0), m.size() == 0 ? -3 : sum);
        due(c, "trips rows", x.trips(n, z, 1), m.size() == 0 ? -3 : rows);
        dueSame(c, x, m);
    }

    /** A text of drawn statements, some of them not as they must be. */
    private static void texts(int c, Random draws, Model m) {
        TippedIntoTheNextLap x = made(m);
        Model t = m.same();
        StringBuilder text = new StringBuilder();
        int many = 1 + draws.nextInt(7);
        int fault = 0;
        for (int k = 0; k < many; k++) {
            int at = text.length();
            boolean done = statement(draws, t, text);
            if (!done && fault == 0) {
                fault = -2000 - at;
            }
            if (fault != 0) {
                t = t.same();
            }
        }
        if (draws.nextInt(5) == 0) {
            int cut = draws.nextInt(text.length());
            text.setCharAt(cut, '!');
            fault = -1000 - cut;
        }
        int[] bytes = new int[text.length()];
        for (int i = 0; i < bytes.length; i++) {
            bytes[i] = text.charAt(i);
        }
        putAll(x, 7, 0, bytes);
        due(c, "coach " + text, x.coach(7), fault != 0 ? fault : many);
        dueSame(c, x, fault != 0 ? m : t);
    }

    private static boolean statement(Random draws, Model t, StringBuilder text) {
        int near = t.size() + (draws.nextInt(12) == 0 ? 1 : 0);
        int a = near == 0 ? 0 : Math.min(9, draws.nextInt(near));
        int b = near == 0 ? 0 : Math.min(9, draws.nextInt(near));
        switch (draws.nextInt(6)) {
            case 0: {
                int kind = draws.nextInt(12) == 0 ? 8 : draws.nextInt(8);
                int figure = draws.nextInt(10);
                text.append('p').append(kind).append(figure).append(';');
                if (kind > 7 || t.size() == 8) {
                    return false;
                }
                t.people.add(new Person(kind, figure));
                return true;
            }
            case 1: {
                int tip = a < t.size() ? draws.nextInt(t.can(a) + 1) : 0;
                tip += draws.nextInt(12) == 0 ? 1 : 0;
                text.append('t').append(a).append(tip / 10).append(tip % 10).append(';');
                if (a >= t.size() || tip > t.can(a)) {
                    return false;
                }
                t.tips[a] = tip;
                return true;
            }
            case 2:
                text.append('b').append(a).append(';');
                if (a >= t.size()) {
                    return false;
                }
                t.blocked[a] = !t.blocked[a];
                t.tips[a] = t.blocked[a] ? 0 : t.tips[a];
                return true;
            case 3: {
                int hour = draws.nextInt(25);
                text.append('h').append(hour / 10).append(hour % 10).append(';');
                t.hour = hour;
                return hour < 24;
            }
            case 4: {
                int n = draws.nextInt(12) == 0 ? draws.nextInt(100) : 1 + draws.nextInt(4);
                text.append('r').append(n / 10).append(n % 10).append(';');
                if (n < 1 || n > 60) {
                    return false;
                }
                t.tips = t.on(n).tips;
                t.trip += n;
                return true;
            }
            default:
                text.append('x').append(a).append(b).append(';');
                if (a >= t.size() || b >= t.size() || a == b) {
                    return false;
                }
                Person who = t.people.get(a);
                t.people.set(a, t.people.get(b));
                t.people.set(b, who);
                t.tips = new int[8];
                return true;
        }
    }
}
