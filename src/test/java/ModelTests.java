import java.util.ArrayList;
import java.util.Comparator;
import java.util.HashMap;
import java.util.HashSet;
import java.util.List;
import java.util.Map;
import java.util.Random;
import java.util.Set;
import java.util.TreeSet;
import java.util.regex.Matcher;
import java.util.regex.Pattern;

/**
 * Compares the class with a plain model of the document that tries out every
 * set, pairing and joining, on towns, rows and texts drawn from fixed seeds.
 */
public final class ModelTests {
    private static final Check check = new Check();
    private static final int NOTHING = -1_000_000;

    private static final class Child {
        int number;
        int house;
        int sex;
        int age;
        boolean half;
        boolean dead;
        boolean away;
    }

    private static final class Ask {
        int sort;
        boolean older;
        boolean younger;
        boolean living;
        boolean whole;
    }

    private static final class Fault extends RuntimeException {
        private static final long serialVersionUID = 1L;
        final int kind;
        final int place;

        Fault(int kind, int place) {
            this.kind = kind;
            this.place = place;
        }
    }

    /** Reads a text by a list of its tokens. */
    private static final class Text {
        final List<String> words = new ArrayList<>();
        final List<Integer> places = new ArrayList<>();
        int at = 0;

        Text(String text) {
            Matcher m = Pattern.compile("[a-z]+|[0-9]+|;|[^ \n]").matcher(text);
            while (m.find()) {
                words.add(m.group());
                places.add(m.start());
            }
            words.add("");
            places.add(text.length());
        }

        Fault fault(int kind) {
            return new Fault(kind, places.get(at));
        }

        boolean is(String word) {
            if (words.get(at).equals(word)) {
                at++;
                return true;
            }
            return false;
        }

        void must(String word) {
            if (!is(word)) {
                throw fault(1);
            }
        }

        int number(int low, int high) {
            if (!words.get(at).matches("[0-9]+")) {
                throw fault(1);
            }
            java.math.BigInteger n = new java.math.BigInteger(words.get(at));
            if (n.compareTo(java.math.BigInteger.valueOf(low)) < 0
                    || n.compareTo(java.math.BigInteger.valueOf(high)) > 0) {
                throw fault(2);
            }
            at++;
            return n.intValue();
        }
    }

    private static final class Town {
        int from;
        int to;
        int houses;
        int lines;
        int gone;
        final List<Child> children = new ArrayList<>();
        final List<Ask> asks = new ArrayList<>();
        final Map<String, Integer> slips = new HashMap<>();

        Town(String text) {
            Text t = new Text(text);
            while (t.at < t.words.size() - 1) {
                line(t);
                t.must(";");
                lines++;
            }
        }

        private void line(Text t) {
            if (lines == 0) {
                t.must("town");
                t.must("school");
                from = t.number(0, 30);
                t.must("to");
                to = t.number(from, 30);
                return;
            }
            String word = t.words.get(t.at);
            if (!Set.of("house", "girl", "boy", "ask", "slip").contains(word)
                    || Set.of("girl", "boy").contains(word) && houses == 0) {
                throw t.fault(1);
            }
            if (word.equals("house") && houses == 8 || word.equals("ask") && asks.size() == 6
                    || Set.of("girl", "boy").contains(word)
                        && (children.size() == 20 || of(houses - 1).size() == 6)) {
                throw t.fault(3);
            }
            t.at++;
            switch (word) {
                case "house" -> houses++;
                case "ask" -> ask(t);
                case "slip" -> {
                    int c = t.number(0, children.size() - 1);
                    int q = t.number(0, asks.size() - 1);
                    slips.put(c + " " + q, t.number(1, 20));
                }
                default -> child(t, word);
            }
        }

        private void child(Text t, String word) {
            Child c = new Child();
            c.number = children.size();
            c.house = houses - 1;
            c.sex = word.equals("girl") ? 0 : 1;
            c.age = t.number(0, 30);
            c.half = t.is("half");
            c.dead = t.is("dead");
            c.away = t.is("away");
            children.add(c);
        }

        private void ask(Text t) {
            Ask a = new Ask();
            a.sort = List.of("sisters", "brothers", "all").indexOf(t.words.get(t.at));
            if (a.sort < 0) {
                throw t.fault(1);
            }
            t.at++;
            a.older = t.is("older");
            a.younger = !a.older && t.is("younger");
            a.living = t.is("living");
            a.whole = t.is("whole");
            asks.add(a);
        }

        List<Child> of(int house) {
            return children.stream().filter(c -> c.house == house).toList();
        }

        boolean at(Child c, int low, int high) {
            return !c.dead && !c.away && low <= c.age && c.age <= high;
        }

        List<Child> scholars() {
            return children.stream().filter(c -> at(c, from, to)).toList();
        }

        List<Child> scholarsOf(int house) {
            return scholars().stream().filter(c -> c.house == house).toList();
        }

        boolean isOf(Child c, int sort) {
            return sort == 2 || c.sex == sort;
        }

        int counts(Child c, Child o, Ask a) {
            if (c == o || c.house != o.house || !isOf(o, a.sort) || a.older && o.age <= c.age
                    || a.younger && o.age >= c.age || a.living && o.dead) {
                return 0;
            }
            boolean one = c.half != o.half;
            return one ? a.whole ? 0 : 1 : 2;
        }

        int truth(Child c, Ask a) {
            return children.stream().mapToInt(o -> counts(c, o, a)).sum();
        }

        int answer(Child c, int q) {
            return truth(c, asks.get(q)) + slips.getOrDefault(c.number + " " + q, 0);
        }

        String answers(Child c, int set) {
            StringBuilder said = new StringBuilder();
            for (int q = 0; q < asks.size(); q++) {
                if ((set >> q & 1) == 1) {
                    said.append(answer(c, q)).append(' ');
                }
            }
            return said.toString();
        }

        int voice(Child c, int sort) {
            Ask plain = new Ask();
            plain.sort = sort;
            return truth(c, plain) + (isOf(c, sort) ? 2 : 0);
        }

        int tale(List<Child> who, int sort) {
            return who.stream().mapToInt(c -> voice(c, sort)).sum() / 2;
        }

        int are(int sort) {
            return (int) children.stream().filter(c -> isOf(c, sort)).count();
        }

        Set<Integer> seen(int low, int high) {
            Set<Integer> found = new TreeSet<>();
            children.stream().filter(c -> at(c, low, high)).forEach(c -> found.add(c.house));
            return found;
        }

        int tells(int set) {
            int bits = 0;
            for (int h : seen(from, to)) {
                Set<String> own = new HashSet<>();
                Set<String> others = new HashSet<>();
                for (Child c : scholars()) {
                    (c.house == h ? own : others).add(answers(c, set));
                }
                own.retainAll(others);
                if (own.isEmpty()) {
                    bits |= 1 << h;
                }
            }
            return bits;
        }

        int like(Child c) {
            int all = (1 << asks.size()) - 1;
            int bits = 0;
            for (Child o : scholars()) {
                if (answers(o, all).equals(answers(c, all))) {
                    bits |= 1 << o.house;
                }
            }
            return bits;
        }

        boolean suits(Child a, Child b, int gap) {
            return a.sex != b.sex && a.house != b.house && !a.dead && !b.dead && a.age >= 16
                && b.age >= 16 && Math.abs(a.age - b.age) <= gap;
        }

        /** Each girl takes every boy who is free and suits, or none. */
        int marriages(List<Child> girls, Set<Child> free, int gap) {
            if (girls.isEmpty()) {
                return 0;
            }
            List<Child> rest = girls.subList(1, girls.size());
            int most = marriages(rest, free, gap);
            for (Child boy : new ArrayList<>(free)) {
                if (suits(girls.get(0), boy, gap)) {
                    free.remove(boy);
                    most = Math.max(most, 1 + marriages(rest, free, gap));
                    free.add(boy);
                }
            }
            return most;
        }

        int marriagesOf(List<Child> who, int gap) {
            return marriages(who.stream().filter(c -> c.sex == 0).toList(),
                new HashSet<>(who.stream().filter(c -> c.sex == 1).toList()), gap);
        }

        List<Child> heirs(int house, int law) {
            Comparator<Child> byAge = Comparator.comparingInt((Child c) -> -c.age).thenComparingInt(c -> c.number);
            Comparator<Child> order = Comparator.comparingInt((Child c) -> c.half ? 1 : 0);
            if (law == 0) {
                order = order.thenComparingInt(c -> -c.sex).thenComparing(byAge);
            } else {
                order = order.thenComparing(law == 1 ? byAge : byAge.reversed());
            }
            return of(house).stream().filter(c -> !c.dead).sorted(order).toList();
        }

        int beds(List<Child> who, int gap) {
            if (who.isEmpty()) {
                return 0;
            }
            List<Child> rest = who.subList(1, who.size());
            int fewest = 1 + beds(rest, gap);
            for (Child o : rest) {
                if (o.sex == who.get(0).sex && Math.abs(o.age - who.get(0).age) <= gap) {
                    List<Child> left = new ArrayList<>(rest);
                    left.remove(o);
                    fewest = Math.min(fewest, 1 + beds(left, gap));
                }
            }
            return fewest;
        }

        int bedsOf(int house, int gap) {
            return beds(of(house).stream().filter(c -> !c.dead && !c.away).toList(), gap);
        }

        int census(int house, int sort) {
            return scholarsOf(house).stream().mapToInt(c -> voice(c, sort) / 2).max().orElse(0);
        }

        /** By each set of n scholars: how far, which. */
        int[] panel(int n, int sort) {
            List<Child> who = scholars();
            int[] found = {-1, -1};
            for (int set = 0; set < 1 << who.size(); set++) {
                if (Integer.bitCount(set) == n) {
                    int sum = 0;
                    int bits = 0;
                    for (int i = 0; i < who.size(); i++) {
                        if ((set >> i & 1) == 1) {
                            sum += voice(who.get(i), sort);
                            bits |= 1 << who.get(i).number;
                        }
                    }
                    int far = Math.abs(sum / 2 - are(sort));
                    if (found[0] < 0 || far < found[0]) {
                        found = new int[] {far, bits};
                    }
                }
            }
            return found;
        }

        List<Child> drawn(int seed, int odds) {
            long x = seed;
            List<Child> come = new ArrayList<>();
            for (Child c : scholars()) {
                x = 1103515245L * x + 12345 & 0x7fffffffL;
                if ((x >> 16) % 100 < odds) {
                    come.add(c);
                }
            }
            return come;
        }
    }

    private static int bits(Iterable<Integer> numbers) {
        int bits = 0;
        for (int number : numbers) {
            bits |= 1 << number;
        }
        return bits;
    }

    private static int homes(List<Child> who) {
        return bits(who.stream().map(c -> c.house).toList());
    }

    private static void fraction(String call, long above, long below, long a, long b) {
        long g = java.math.BigInteger.valueOf(a).gcd(java.math.BigInteger.valueOf(b)).longValue();
        check.due(call + " above", above, a / g);
        check.due(call + " below", below, b / g);
    }

    private static String anyTown(Random r) {
        int from = r.nextInt(12);
        StringBuilder text = new StringBuilder("town school " + from + " to " + (from + r.nextInt(14)) + ";");
        int houses = r.nextInt(9);
        int ages = 1 + r.nextInt(31);
        int children = 0;
        int perHouse = 1 + r.nextInt(6);
        for (int h = 0; h < houses; h++) {
            text.append("house;");
            for (int n = r.nextInt(perHouse + 1); n > 0 && children < 20; n--) {
                text.append(r.nextBoolean() ? "girl " : "boy ").append(r.nextInt(ages));
                text.append(r.nextInt(4) == 0 ? " half" : "").append(r.nextInt(8) == 0 ? " dead" : "");
                text.append(r.nextInt(8) == 0 ? " away" : "").append(';');
                children++;
            }
        }
        int asks = r.nextInt(7);
        for (int q = 0; q < asks; q++) {
            text.append("ask ").append(List.of("sisters", "brothers", "all").get(r.nextInt(3)));
            text.append(List.of("", "", " older", " younger").get(r.nextInt(4)));
            text.append(r.nextInt(3) == 0 ? " living" : "").append(r.nextInt(3) == 0 ? " whole" : "").append(';');
        }
        for (int n = r.nextInt(5); n > 0 && children > 0 && asks > 0; n--) {
            text.append("slip ").append(r.nextInt(children)).append(' ').append(r.nextInt(asks));
            text.append(' ').append(1 + r.nextInt(3)).append(';');
        }
        return text.toString();
    }

    private static void compare(SisterCount x, Town t, Random r) {
        compareChildren(x, t);
        compareHouses(x, t);
        compareSorts(x, t, r);
        compareAsks(x, t);
        compareYears(x, t);
        compareMarriages(x, t, r);
        compareDraws(x, t, r);
        int[] counts = {t.from, t.to, t.houses, t.children.size(), t.asks.size(), t.scholars().size(), t.lines, 0, t.gone};
        for (int what = 0; what < 9; what++) {
            check.due("count(" + what + ")", x.count(what), counts[what]);
        }
    }

    private static void compareChildren(SisterCount x, Town t) {
        int all = (1 << t.asks.size()) - 1;
        check.due("scholars", x.scholars(), bits(t.scholars().stream().map(c -> c.number).toList()));
        for (Child c : t.children) {
            boolean scholar = t.scholars().contains(c);
            int n = c.number;
            int[] parts = {c.house, c.sex, c.age, c.half ? 1 : 0, c.dead ? 1 : 0, c.away ? 1 : 0};
            for (int what = 0; what < 6; what++) {
                check.due("child", x.child(n, what), parts[what]);
            }
            for (int q = 0; q < t.asks.size(); q++) {
                Ask a = t.asks.get(q);
                check.due("truth", x.truth(n, q), t.truth(c, a));
                check.due("answer", x.answer(n, q), scholar ? t.answer(c, q) : -5);
                long hidden = t.children.stream().filter(o -> t.counts(c, o, a) > 0 && !t.scholars().contains(o)).count();
                check.due("hidden", x.hidden(n, q), scholar ? hidden : -5);
            }
            check.due("like", x.like(n), scholar ? t.like(c) : -5);
            check.due("twins", x.twins(n), t.of(c.house).stream().filter(o -> o != c && !o.dead && o.age == c.age).count());
            int fits = t.of(c.house).stream().filter(o -> {
                for (int q = 0; q < t.asks.size(); q++) {
                    if (t.answer(c, q) != t.truth(o, t.asks.get(q))) {
                        return false;
                    }
                }
                return true;
            }).mapToInt(o -> o.number).findFirst().orElse(-1);
            check.due("fits", x.fits(n), scholar ? fits : -5);
            for (int law = 0; law < 3; law++) {
                check.due("place", x.place(n, law), t.heirs(c.house, law).indexOf(c));
            }
            for (int sort = 0; sort < 3; sort++) {
                List<Child> others = new ArrayList<>(t.scholars());
                others.remove(c);
                int s = sort;
                check.due("less", x.less(n, s), scholar ? t.tale(t.scholars(), s) - t.tale(others, s) : -2);
            }
        }
        int enough = 0;
        for (int h : t.seen(t.from, t.to)) {
            boolean sure = t.scholarsOf(h).stream().anyMatch(c -> t.like(c) == 1 << c.house);
            enough = sure && enough >= 0 ? enough + 1 : -1;
        }
        check.due("enough", x.enough(), enough);
        int slips = 0;
        int most = 0;
        int first = -1;
        for (Child c : t.scholars()) {
            int own = (int) java.util.stream.IntStream.range(0, t.asks.size())
                .filter(q -> t.answer(c, q) != t.truth(c, t.asks.get(q))).count();
            slips += own;
            first = own > most ? c.number : first;
            most = Math.max(most, own);
        }
        check.due("slips(0)", x.slips(0), slips);
        check.due("slips(1)", x.slips(1), first);
        check.due("tells(all)", x.tells(all), t.tells(all));
    }

    private static void compareHouses(SisterCount x, Town t) {
        int unseen = 0;
        int only = 0;
        int heavy = -1;
        for (int h = 0; h < t.houses; h++) {
            List<Child> all = t.of(h);
            int seen = t.scholarsOf(h).size();
            long[] parts = {all.size(), all.stream().filter(c -> c.sex == 0).count(),
                all.stream().filter(c -> c.sex == 1).count(), seen, all.isEmpty() ? -1 : all.get(0).number};
            for (int what = 0; what < 5; what++) {
                check.due("house", x.house(h, what), parts[what]);
            }
            unseen |= !all.isEmpty() && seen == 0 ? 1 << h : 0;
            only |= all.size() == 1 ? 1 << all.get(0).number : 0;
            heavy = seen > (heavy < 0 ? 0 : t.scholarsOf(heavy).size()) ? h : heavy;
            if (all.isEmpty()) {
                check.due("age", x.age(h, 0), -5);
            } else {
                fraction("age", x.age(h, 0), x.age(h, 1), all.stream().mapToInt(c -> c.age).sum(), all.size());
            }
            if (t.scholars().isEmpty()) {
                check.due("share", x.share(h, 1), -5);
            } else {
                fraction("share", x.share(h, 0), x.share(h, 1), seen, t.scholars().size());
            }
            int[] living = all.stream().filter(c -> !c.dead).mapToInt(c -> c.age).sorted().toArray();
            check.due("spread", x.spread(h), living.length == 0 ? -1 : living[living.length - 1] - living[0]);
            for (int law = 0; law < 3; law++) {
                List<Child> heirs = t.heirs(h, law);
                for (int i = 0; i < 7; i++) {
                    check.due("heir", x.heir(h, law, i), i < heirs.size() ? heirs.get(i).number : -1);
                }
            }
            int[] squeeze = {-1, -1, -1, -1, -1, -1, -1};
            for (int gap = 0; gap < 100; gap++) {
                int beds = t.bedsOf(h, gap);
                check.due("beds", x.beds(h, gap), beds);
                for (int n = beds; n < 7; n++) {
                    squeeze[n] = squeeze[n] < 0 ? gap : squeeze[n];
                }
            }
            for (int n = 0; n < 7; n++) {
                check.due("squeeze", x.squeeze(h, n), squeeze[n]);
            }
        }
        check.due("unseen", x.unseen(), unseen);
        check.due("only", x.only(), only);
        check.due("heavy", x.heavy(), heavy);
        for (int law = 0; law < 9; law++) {
            int quarrel = 0;
            for (int h = 0; h < t.houses; h++) {
                List<Child> a = t.heirs(h, law / 3);
                List<Child> b = t.heirs(h, law % 3);
                quarrel |= !a.isEmpty() && a.get(0) != b.get(0) ? 1 << h : 0;
            }
            check.due("quarrel", x.quarrel(law / 3, law % 3), quarrel);
        }
    }

    private static void compareSorts(SisterCount x, Town t, Random r) {
        for (int sort = 0; sort < 3; sort++) {
            int s = sort;
            check.due("tale", x.tale(s), t.tale(t.scholars(), s));
            check.due("are", x.are(s), t.are(s));
            if (t.houses == 0) {
                check.due("mean", x.mean(s, 0), -5);
            } else {
                fraction("mean", x.mean(s, 0), x.mean(s, 1), t.are(s), t.houses);
            }
            int census = 0;
            int off = -1;
            int far = 0;
            for (int h : t.seen(t.from, t.to)) {
                int told = t.census(h, s);
                int own = Math.abs(told - (int) t.of(h).stream().filter(c -> t.isOf(c, s)).count());
                census += told;
                off = own > far ? h : off;
                far = Math.max(far, own);
            }
            check.due("census", x.census(s), census);
            check.due("off", x.off(s), off);
            int oldest = t.children.stream().filter(c -> !c.dead && t.isOf(c, s)).mapToInt(c -> c.age).max().orElse(-1);
            int eldest = t.children.stream().filter(c -> !c.dead && t.isOf(c, s) && c.age == oldest)
                .mapToInt(c -> c.number).findFirst().orElse(-1);
            check.due("eldest", x.eldest(s), eldest);
            if (t.scholars().size() <= 12) {
                int just = -1;
                for (int n = 0; n <= t.scholars().size() + 1; n++) {
                    int[] panel = t.panel(n, s);
                    check.due("panel(0)", x.panel(n, s, 0), panel[0]);
                    check.due("panel(1)", x.panel(n, s, 1), panel[1]);
                    just = just < 0 && panel[0] == 0 ? n : just;
                }
                check.due("just", x.just(s), just);
            }
            for (int i = 0; i < 10 && t.children.size() > 0; i++) {
                Child a = t.children.get(r.nextInt(t.children.size()));
                Child b = t.children.get(r.nextInt(t.children.size()));
                int before = t.tale(t.scholars(), s);
                int home = a.house;
                a.house = b.house;
                b.house = home;
                int after = t.tale(t.scholars(), s);
                b.house = a.house;
                a.house = home;
                check.due("changed", x.changed(a.number, b.number, s), a.house == b.house ? NOTHING : after - before);
            }
        }
        int fullest = 0;
        int mothers = 0;
        for (int h = 0; h < t.houses; h++) {
            fullest = Math.max(fullest, t.of(h).size());
            mothers += t.of(h).isEmpty() ? 0 : 1;
        }
        int loaves = fullest == 0 ? -5 : (int) Math.ceil(t.tale(t.scholars(), 2) / (double) fullest);
        check.due("bread(0)", x.bread(0), loaves);
        check.due("bread(1)", x.bread(1), fullest == 0 ? -5 : mothers);
        check.due("bread(2)", x.bread(2), fullest == 0 ? -5 : loaves - mothers);
    }

    private static void compareAsks(SisterCount x, Town t) {
        int next = -1;
        for (int q = 0; q < t.asks.size(); q++) {
            Map<Integer, Integer> crowds = new HashMap<>();
            long sum = 0;
            for (Child c : t.scholars()) {
                crowds.merge(t.answer(c, q), 1, Integer::sum);
                sum += t.answer(c, q);
            }
            int crowd = crowds.values().stream().mapToInt(v -> v).max().orElse(0);
            check.due("kinds", x.kinds(q), crowds.size());
            check.due("crowd", x.crowd(q), crowd);
            next = next < 0 || crowd < x.crowd(next) ? q : next;
            if (crowds.isEmpty()) {
                check.due("seems", x.seems(q, 0), -5);
                check.due("weighed", x.weighed(q, 1), -5);
            } else {
                fraction("seems", x.seems(q, 0), x.seems(q, 1), sum, 2L * t.scholars().size());
                long above = 0;
                long below = 1;
                for (int h : t.seen(t.from, t.to)) {
                    int ask = q;
                    long own = t.scholarsOf(h).stream().mapToInt(c -> t.answer(c, ask)).sum();
                    above = above * t.scholarsOf(h).size() + own * below;
                    below *= t.scholarsOf(h).size();
                }
                fraction("weighed", x.weighed(q, 0), x.weighed(q, 1), above, below * 2 * t.seen(t.from, t.to).size());
            }
            int clash = 0;
            for (Child a : t.scholars()) {
                for (Child b : t.scholars()) {
                    clash += a.number < b.number && a.house == b.house && a.sex == b.sex && a.half == b.half
                        && t.answer(a, q) != t.answer(b, q) ? 1 : 0;
                }
            }
            check.due("clash", x.clash(q), clash);
        }
        check.due("next", x.next(), next);
        int all = (1 << t.asks.size()) - 1;
        int due = Integer.bitCount(t.tells(all));
        int fewest = 7;
        int least = -1;
        int[] most = new int[7];
        for (int set = 0; set <= all; set++) {
            int told = t.tells(set);
            int n = Integer.bitCount(set);
            check.due("tells", x.tells(set), told);
            most[n] = Math.max(most[n], Integer.bitCount(told));
            if (Integer.bitCount(told) == due && n < fewest) {
                fewest = n;
                least = set;
            }
        }
        check.due("fewest(0)", x.fewest(0), fewest);
        check.due("fewest(1)", x.fewest(1), least);
        for (int n = 0; n < 8; n++) {
            check.due("most", x.most(n), n > t.asks.size() ? -2 : most[n]);
        }
    }

    private static void compareYears(SisterCount x, Town t) {
        int most = -1;
        int first = -1;
        int[] comes = {-1, -1, -1, -1, -1, -1, -1, -1};
        for (int y = 0; y <= 30; y++) {
            Set<Integer> seen = t.seen(t.from - y, t.to - y);
            for (int h : seen) {
                comes[h] = comes[h] < 0 ? y : comes[h];
            }
            first = seen.size() > most ? y : first;
            most = Math.max(most, seen.size());
            int n = y;
            check.due("later", x.later(y), t.children.stream().filter(c -> t.at(c, t.from + n, t.to + n)).count());
        }
        for (int h = 0; h < t.houses; h++) {
            check.due("comes", x.comes(h), comes[h]);
        }
        check.due("best(0)", x.best(0), most);
        check.due("best(1)", x.best(1), first);
        int school = 0;
        for (int f = 0; f <= 30; f++) {
            if (t.seen(f, f + t.to - t.from).size() > t.seen(school, school + t.to - t.from).size()) {
                school = f;
            }
        }
        check.due("school", x.school(), school);
    }

    private static void compareMarriages(SisterCount x, Town t, Random r) {
        long grown = t.children.stream().filter(c -> c.sex == 0 && c.age >= 16 && !c.dead).count();
        if (grown > 6) {
            return;
        }
        int gap = r.nextInt(4) == 0 ? 99 : r.nextInt(8);
        int most = t.marriagesOf(t.children, gap);
        check.due("marriages", x.marriages(gap), most);
        for (Child c : t.children) {
            List<Child> others = new ArrayList<>(t.children);
            others.remove(c);
            check.due("sought", x.sought(c.number, gap), t.marriagesOf(others, gap) < most ? 1 : 0);
            check.due("suits", x.suits(c.number, gap), t.children.stream().filter(o -> t.suits(c, o, gap)).count());
        }
        for (int a = 0; a < t.houses; a++) {
            for (int b = 0; b < t.houses; b++) {
                List<Child> both = new ArrayList<>(t.of(a));
                both.addAll(t.of(b));
                check.due("between", x.between(a, b, gap), a == b ? -2 : t.marriagesOf(both, gap));
            }
        }
    }

    /** The most pairs, by all sets of boys whom the girls so far can have. */
    private static int mostPairs(Town t, List<Child> who, int gap) {
        List<Child> boys = who.stream().filter(c -> c.sex == 1).toList();
        Set<Integer> reached = new HashSet<>(Set.of(0));
        for (Child girl : who) {
            Set<Integer> further = new HashSet<>(reached);
            for (int b = 0; b < boys.size(); b++) {
                if (t.suits(girl, boys.get(b), gap)) {
                    for (int set : reached) {
                        further.add(set | 1 << b);
                    }
                }
            }
            reached = girl.sex == 0 ? further : reached;
        }
        return reached.stream().mapToInt(Integer::bitCount).max().orElse(0);
    }

    /** Twenty grown ones, so that those who marry can be moved in long chains. */
    private static void grownTowns() {
        for (int seed = 0; seed < 60; seed++) {
            check.about("grown town " + seed);
            Random r = new Random(seed);
            int ages = 3 + r.nextInt(13);
            StringBuilder text = new StringBuilder("town school 5 to 9;");
            for (int c = 0; c < 20; c++) {
                text.append(c % 3 == 0 ? "house;" : "").append(r.nextBoolean() ? "girl " : "boy ");
                text.append(15 + r.nextInt(ages)).append(r.nextInt(12) == 0 ? " dead;" : ";");
            }
            Town t = new Town(text.toString());
            SisterCount x = Check.of(text.toString());
            for (int gap : new int[] {0, 1, 2, 4, 99}) {
                int most = mostPairs(t, t.children, gap);
                check.due("marriages(" + gap + ")", x.marriages(gap), most);
                for (Child c : t.children) {
                    List<Child> others = new ArrayList<>(t.children);
                    others.remove(c);
                    int without = mostPairs(t, others, gap);
                    check.due("sought(" + c.number + ", " + gap + ")", x.sought(c.number, gap), without < most ? 1 : 0);
                }
            }
        }
    }

    private static void compareDraws(SisterCount x, Town t, Random r) {
        for (int i = 0; i < 5; i++) {
            int seed = i == 0 ? 2_000_000_000 : r.nextInt(2_000_000_000);
            int odds = r.nextInt(101);
            List<Child> come = t.drawn(seed, odds);
            check.due("drawn(0)", x.drawn(seed, odds, 0), come.size());
            check.due("drawn(1)", x.drawn(seed, odds, 1), homes(come));
            check.due("drawn(2)", x.drawn(seed, odds, 2), t.tale(come, 2));
            int n = 1 + r.nextInt(20);
            for (int h = 0; h < t.houses; h++) {
                int seen = 0;
                for (int k = 0; k < n; k++) {
                    seen += homes(t.drawn(seed + k, odds)) >> h & 1;
                }
                check.due("seen", x.seen(seed, n, odds, h), seen);
            }
        }
    }

    private static void towns() {
        for (int seed = 0; seed < 400; seed++) {
            Random r = new Random(seed);
            String text = anyTown(r);
            check.about("town " + seed);
            Town t = new Town(text);
            SisterCount x = Check.of(text);
            compare(x, t, r);
            int n = r.nextInt(31);
            x.image(1);
            for (Child c : t.children) {
                c.age += c.dead ? 0 : n;
            }
            t.gone += n;
            check.due("years", x.years(n), t.scholars().size());
            check.about("town " + seed + " years on");
            compare(x, t, r);
            x.back(1);
            check.about("town " + seed + " gone back to");
            compare(x, new Town(text), r);
            heard(x, new Town(text), r);
        }
    }

    private static void heard(SisterCount x, Town t, Random r) {
        if (t.children.isEmpty() || t.asks.isEmpty()) {
            return;
        }
        int n = r.nextInt(21);
        long[] row = new long[3 * n];
        int[] own = new int[20];
        int wrong = 0;
        for (int i = 0; i < n; i++) {
            Child c = t.children.get(r.nextInt(t.children.size()));
            int q = r.nextInt(t.asks.size());
            row[3 * i] = c.number;
            row[3 * i + 1] = q;
            row[3 * i + 2] = r.nextBoolean() ? t.truth(c, t.asks.get(q)) : r.nextInt(7) - 2;
            if (row[3 * i + 2] != t.truth(c, t.asks.get(q))) {
                wrong++;
                own[c.number]++;
            }
        }
        int bold = -1;
        for (int c = 0; c < 20; c++) {
            bold = own[c] > (bold < 0 ? 0 : own[bold]) ? c : bold;
        }
        Check.putRow(x, 2, r.nextInt(4), row);
        check.due("wrong", x.wrong(2), wrong);
        check.due("bold", x.bold(2), bold);
    }

    /** Every joining of a row of TOLD ones, each child put to each house there is, or to its own. */
    private static final class Joinings {
        final int[][] told;
        final List<int[]> houses = new ArrayList<>();
        final int[] home;
        final long[] by = new long[11];
        final long[][] joined;
        int fewest = Integer.MAX_VALUE;
        int most = -1;

        Joinings(int[][] told) {
            this.told = told;
            home = new int[told.length];
            joined = new long[told.length][told.length];
            put(0);
        }

        private void put(int i) {
            if (i == told.length) {
                by[houses.size()]++;
                int daughters = houses.stream().mapToInt(h -> h[0]).sum();
                fewest = Math.min(fewest, daughters);
                most = Math.max(most, daughters);
                for (int a = 0; a < told.length; a++) {
                    for (int b = 0; b < told.length; b++) {
                        joined[a][b] += home[a] == home[b] ? 1 : 0;
                    }
                }
                return;
            }
            int sex = told[i][0];
            int girls = told[i][1] + 1 - sex;
            int boys = told[i][2] + sex;
            for (int h = 0; h < houses.size(); h++) {
                int[] house = houses.get(h);
                if (house[0] == girls && house[1] == boys && house[2 + sex] < house[sex]) {
                    house[2 + sex]++;
                    home[i] = h;
                    put(i + 1);
                    house[2 + sex]--;
                }
            }
            houses.add(new int[] {girls, boys, 1 - sex, sex});
            home[i] = houses.size() - 1;
            put(i + 1);
            houses.remove(houses.size() - 1);
        }
    }

    private static void joinings() {
        SisterCount x = Check.of("town school 5 to 9;");
        for (int seed = 0; seed < 300; seed++) {
            check.about("joinings " + seed);
            Random r = new Random(seed);
            int n = seed < 20 ? 10 : r.nextInt(9);
            int bound = 1 + r.nextInt(seed % 3 == 0 ? 9 : 3);
            int[][] told = new int[n][];
            long[] row = new long[3 * n];
            for (int i = 0; i < n; i++) {
                int sex = r.nextInt(2);
                // Mostly of one house, so that many can be joined.
                boolean like = r.nextInt(4) > 0;
                told[i] = like ? new int[] {sex, bound - 1 + sex, bound - sex}
                    : new int[] {sex, r.nextInt(bound + 1), r.nextInt(bound + 1)};
                for (int k = 0; k < 3; k++) {
                    row[3 * i + k] = told[i][k];
                }
            }
            if (seed % 50 == 49) {
                x = Check.of("town school 5 to 9;");
            }
            Check.putRow(x, 1, r.nextInt(4), row);
            Joinings j = new Joinings(told);
            long all = 0;
            long houses = 0;
            int least = 10;
            for (int k = 10; k >= 0; k--) {
                check.due("by", x.by(1, k), j.by[k]);
                all += j.by[k];
                houses += k * j.by[k];
                least = j.by[k] > 0 ? k : least;
            }
            check.due("least", x.least(1), least);
            check.due("greatest", x.greatest(1), n);
            check.due("joinings", x.joinings(1), all);
            fraction("likely", x.likely(1, 0), x.likely(1, 1), houses, all);
            check.due("daughters(0)", x.daughters(1, 0), j.fewest);
            check.due("daughters(1)", x.daughters(1, 1), j.most);
            Set<String> sorts = new HashSet<>();
            for (int i = 0; i < n; i++) {
                sorts.add(told[i][1] + 1 - told[i][0] + " " + (told[i][2] + told[i][0]));
                for (int k = 0; k < n; k++) {
                    check.due("joined", x.joined(1, i, k), i == k ? -2 : j.joined[i][k]);
                }
            }
            check.due("sorts", x.sorts(1), sorts.size());
        }
    }

    private static void texts() {
        List<String> tokens = List.of("town", "school", "to", "house", "girl", "boy", "half", "dead", "away",
            "ask", "sisters", "brothers", "all", "older", "younger", "living", "whole", "slip",
            ";", ";", "0", "1", "2", "20", "30", "31", "x", "?", "\n", "A", "housegirl", "5boy", "99999999999");
        SisterCount x = new SisterCount();
        int lines = 0;
        for (int seed = 0; seed < 20000; seed++) {
            check.about("text " + seed);
            Random r = new Random(seed);
            List<String> words = new ArrayList<>(List.of(anyTown(r).split("(?<=[ ;])|(?=;)")));
            for (int n = r.nextInt(4); n > 0 && !words.isEmpty(); n--) {
                int at = r.nextInt(words.size());
                switch (r.nextInt(4)) {
                    case 0 -> words.remove(at);
                    case 1 -> words.add(at, " " + tokens.get(r.nextInt(tokens.size())) + " ");
                    case 2 -> words.set(at, " " + tokens.get(r.nextInt(tokens.size())) + " ");
                    default -> words = words.subList(0, at);
                }
            }
            String text = String.join("", words);
            if (text.length() > 1200) {
                continue;
            }
            if (seed % 20 == 0) {
                x = new SisterCount();
                lines = 0;
            }
            Check.feedText(x, text);
            try {
                lines = new Town(text).lines;
                check.due("town", x.town(), lines);
                check.due("fault(0)", x.fault(0), 0);
                check.due("fault(1)", x.fault(1), -1);
            } catch (Fault f) {
                check.due("town", x.town(), -4);
                check.due("fault(0)", x.fault(0), f.kind);
                check.due("fault(1)", x.fault(1), f.place);
            }
            check.due("count(6)", x.count(6), lines);
        }
    }

    public static void main(String[] args) {
        towns();
        grownTowns();
        joinings();
        texts();
        check.finish("ModelTests");
    }
}
