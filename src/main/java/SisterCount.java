import java.util.Arrays;

/**
 * A town of houses, told as a text, and what its children tell of their
 * sisters and brothers at school. README.md says how to use it.
 */
public final class SisterCount {
    public static final int NONE = -1;

    private static final int ABSENT = -2;
    private static final int TOO_MANY = -3;
    private static final int FAULTY = -4;
    private static final int NOBODY = -5;
    private static final int EMPTY = -6;
    private static final int BEYOND = -7;
    private static final int UNLIKE = -8;
    private static final int NOTHING = -1_000_000;

    private static final int HOUSES = 8;
    private static final int CHILDREN = 20;
    private static final int OF_A_HOUSE = 6;
    private static final int QUESTIONS = 6;
    private static final int OLDEST_TOLD = 30;
    private static final int OLDEST = 99;
    private static final int YEARS_ON = 30;
    private static final int MARRIED_FROM = 16;
    private static final int GREATEST_SLIP = 20;

    private static final int GIRL = 0;
    private static final int BOY = 1;
    private static final int ALL = 2;

    private static final int OLDER = 1;
    private static final int YOUNGER = 2;

    private static final int IMAGES = 3;
    private static final int SLOTS = 4;
    private static final int ROW_LENGTH = 60;
    private static final int TOLD = 10;
    private static final int SCHOOLS_DRAWN = 20;
    private static final int GREATEST_SEED = 2_000_000_000;

    private final Tape tape = new Tape();
    private final Reader reader = new Reader(tape);
    private final Town now = new Town();
    private final Town draft = new Town();
    private final Town[] images = new Town[IMAGES];
    private int imagesKept = 0;
    private final Row[] slots = new Row[SLOTS];
    private final Answers answers = new Answers(now);
    private final Chooser chooser = new Chooser(now);
    private final Joiner joiner = new Joiner();
    private final Matcher matcher = new Matcher(now);
    private final Household household = new Household(now);

    public SisterCount() {
        for (int k = 0; k < IMAGES; k++) {
            images[k] = new Town();
        }
        for (int k = 0; k < SLOTS; k++) {
            slots[k] = new Row();
        }
    }

    // ------------------------------------------------------------- the text

    public int feed(int a, int b, int c, int d, int e) {
        if (!tape.hasRoom()) {
            return NONE;
        }
        tape.append(a);
        tape.append(b);
        tape.append(c);
        tape.append(d);
        tape.append(e);
        return tape.length;
    }

    public int end(int n) {
        if (n < 0 || n > tape.length) {
            return NONE;
        }
        tape.length = n;
        return n;
    }

    public int town() {
        reader.readInto(draft);
        // The tape stays behind a fault, so that it can be cut and mended.
        if (reader.fault != 0) {
            return FAULTY;
        }
        tape.length = 0;
        now.copyFrom(draft);
        return now.lines;
    }

    public int fault(int what) {
        if (what == 0) {
            return reader.fault;
        }
        return what == 1 ? reader.faultPlace : NONE;
    }

    // --------------------------------------------------- children and houses

    public int child(int child, int what) {
        if (!now.hasChild(child)) {
            return ABSENT;
        }
        switch (what) {
            case 0: return now.homes[child];
            case 1: return now.sexes[child];
            case 2: return now.ages[child];
            case 3: return now.half[child];
            case 4: return now.dead[child];
            case 5: return now.away[child];
            default: return ABSENT;
        }
    }

    public int house(int house, int what) {
        if (!now.hasHouse(house)) {
            return ABSENT;
        }
        switch (what) {
            case 0: return now.childrenOf(house, ALL);
            case 1: return now.childrenOf(house, GIRL);
            case 2: return now.childrenOf(house, BOY);
            case 3: return now.scholarsOf(house);
            case 4: return now.firstOf(house);
            default: return ABSENT;
        }
    }

    public int scholars() {
        return now.stands() ? now.scholarBits() : ABSENT;
    }

    public int truth(int child, int ask) {
        if (!now.hasChild(child) || !now.hasAsk(ask)) {
            return ABSENT;
        }
        return now.truthOf(child, ask);
    }

    public int answer(int child, int ask) {
        if (!now.hasChild(child) || !now.hasAsk(ask)) {
            return ABSENT;
        }
        return now.isScholar(child) ? now.answerOf(child, ask) : NOBODY;
    }

    // ------------------------------------------------------ tales and means

    public int tale(int sort) {
        if (!now.stands() || !isSort(sort)) {
            return ABSENT;
        }
        return now.taleBy(now.scholarBits(), sort);
    }

    public int are(int sort) {
        if (!now.stands() || !isSort(sort)) {
            return ABSENT;
        }
        return now.allOf(sort);
    }

    public long seems(int ask, int what) {
        if (!now.hasAsk(ask) || !isEither(what)) {
            return ABSENT;
        }
        int asked = Integer.bitCount(now.scholarBits());
        if (asked == 0) {
            return NOBODY;
        }
        long sum = 0;
        for (int house = 0; house < now.houses; house++) {
            sum += now.answersOf(house, ask);
        }
        return part(sum, 2L * asked, what);
    }

    public long weighed(int ask, int what) {
        if (!now.hasAsk(ask) || !isEither(what)) {
            return ABSENT;
        }
        // Sixty is divided by each number of scholars that a house can have.
        long sixtieths = 0;
        long housesSeen = 0;
        for (int house = 0; house < now.houses; house++) {
            int asked = now.scholarsOf(house);
            if (asked > 0) {
                sixtieths += (long) now.answersOf(house, ask) * (60 / asked);
                housesSeen++;
            }
        }
        return housesSeen == 0 ? NOBODY : part(sixtieths, 120 * housesSeen, what);
    }

    public long mean(int sort, int what) {
        if (!now.stands() || !isSort(sort) || !isEither(what)) {
            return ABSENT;
        }
        return now.houses == 0 ? NOBODY : part(now.allOf(sort), now.houses, what);
    }

    public long age(int house, int what) {
        if (!now.hasHouse(house) || !isEither(what)) {
            return ABSENT;
        }
        int children = now.childrenOf(house, ALL);
        return children == 0 ? NOBODY : part(now.agesOf(house), children, what);
    }

    public int share(int house, int what) {
        if (!now.hasHouse(house) || !isEither(what)) {
            return ABSENT;
        }
        int asked = Integer.bitCount(now.scholarBits());
        return asked == 0 ? NOBODY : (int) part(now.scholarsOf(house), asked, what);
    }

    public int less(int child, int sort) {
        if (!now.hasChild(child) || !isSort(sort) || !now.isScholar(child)) {
            return ABSENT;
        }
        int all = now.scholarBits();
        return now.taleBy(all, sort) - now.taleBy(all & ~(1 << child), sort);
    }

    public int changed(int child, int other, int sort) {
        if (!now.hasChild(child) || !now.hasChild(other) || !isSort(sort)) {
            return NOTHING;
        }
        if (now.homes[child] == now.homes[other]) {
            return NOTHING;
        }
        int asked = now.scholarBits();
        int before = now.taleBy(asked, sort);
        now.swapHomes(child, other);
        int after = now.taleBy(asked, sort);
        now.swapHomes(child, other);
        return after - before;
    }

    public int bread(int what) {
        if (!now.stands() || what < 0 || what > 2) {
            return ABSENT;
        }
        int fullest = now.fullestHouse();
        if (fullest == 0) {
            return NOBODY;
        }
        int loaves = (now.taleBy(now.scholarBits(), ALL) + fullest - 1) / fullest;
        int mothers = now.housesWithChildren();
        switch (what) {
            case 0: return loaves;
            case 1: return mothers;
            default: return loaves - mothers;
        }
    }

    public int census(int sort) {
        if (!now.stands() || !isSort(sort)) {
            return ABSENT;
        }
        int sum = 0;
        for (int house = 0; house < now.houses; house++) {
            sum += now.censusOf(house, sort);
        }
        return sum;
    }

    public int off(int sort) {
        if (!now.stands() || !isSort(sort)) {
            return ABSENT;
        }
        int farthest = NONE;
        int distance = 0;
        for (int house = 0; house < now.houses; house++) {
            int far = Math.abs(now.censusOf(house, sort) - now.childrenOf(house, sort));
            if (now.scholarsOf(house) > 0 && far > distance) {
                farthest = house;
                distance = far;
            }
        }
        return farthest;
    }

    public int panel(int n, int sort, int what) {
        if (!now.stands() || n < 0 || n > CHILDREN || !isSort(sort) || !isEither(what)) {
            return ABSENT;
        }
        if (n > Integer.bitCount(now.scholarBits())) {
            return NONE;
        }
        chooser.gather(sort);
        int distance = chooser.distance(n);
        return what == 0 ? distance : chooser.leastSet(n, distance);
    }

    public int just(int sort) {
        if (!now.stands() || !isSort(sort)) {
            return ABSENT;
        }
        chooser.gather(sort);
        for (int n = 0; n <= chooser.size; n++) {
            if (chooser.distance(n) == 0) {
                return n;
            }
        }
        return NONE;
    }

    // ------------------------------------------------------ who is at school

    public int unseen() {
        if (!now.stands()) {
            return ABSENT;
        }
        int bits = 0;
        for (int house = 0; house < now.houses; house++) {
            if (now.childrenOf(house, ALL) > 0 && now.scholarsOf(house) == 0) {
                bits |= 1 << house;
            }
        }
        return bits;
    }

    public int comes(int house) {
        if (!now.hasHouse(house)) {
            return ABSENT;
        }
        for (int year = 0; year <= YEARS_ON; year++) {
            if (isIn(now.seenIn(year), house)) {
                return year;
            }
        }
        return NONE;
    }

    public int best(int what) {
        if (!now.stands() || !isEither(what)) {
            return ABSENT;
        }
        int greatest = NONE;
        int first = 0;
        for (int year = 0; year <= YEARS_ON; year++) {
            int housesSeen = Integer.bitCount(now.seenIn(year));
            if (housesSeen > greatest) {
                greatest = housesSeen;
                first = year;
            }
        }
        return what == 0 ? greatest : first;
    }

    public int years(int n) {
        if (!now.stands() || n < 0 || n > YEARS_ON) {
            return ABSENT;
        }
        if (now.oldestOf(ALL) + n > OLDEST) {
            return TOO_MANY;
        }
        now.growBy(n);
        return Integer.bitCount(now.scholarBits());
    }

    public int later(int n) {
        if (!now.stands() || n < 0 || n > YEARS_ON) {
            return ABSENT;
        }
        int sum = 0;
        for (int child = 0; child < now.children; child++) {
            if (now.isPresent(child, now.from + n, now.to + n)) {
                sum++;
            }
        }
        return sum;
    }

    public int school() {
        if (!now.stands()) {
            return ABSENT;
        }
        int greatest = NONE;
        int first = 0;
        for (int from = 0; from <= OLDEST_TOLD; from++) {
            int housesSeen = Integer.bitCount(now.seenBetween(from, from + now.to - now.from));
            if (housesSeen > greatest) {
                greatest = housesSeen;
                first = from;
            }
        }
        return first;
    }

    public int heavy() {
        if (!now.stands()) {
            return ABSENT;
        }
        int heaviest = NONE;
        int greatest = 0;
        for (int house = 0; house < now.houses; house++) {
            if (now.scholarsOf(house) > greatest) {
                greatest = now.scholarsOf(house);
                heaviest = house;
            }
        }
        return heaviest;
    }

    public int only() {
        if (!now.stands()) {
            return ABSENT;
        }
        int bits = 0;
        for (int house = 0; house < now.houses; house++) {
            if (now.childrenOf(house, ALL) == 1) {
                bits |= 1 << now.firstOf(house);
            }
        }
        return bits;
    }

    public int eldest(int sort) {
        if (!now.stands() || !isSort(sort)) {
            return ABSENT;
        }
        int oldest = now.oldestOf(sort);
        for (int child = 0; child < now.children; child++) {
            if (now.isLivingOf(child, sort) && now.ages[child] == oldest) {
                return child;
            }
        }
        return NONE;
    }

    public int spread(int house) {
        if (!now.hasHouse(house)) {
            return ABSENT;
        }
        int greatest = NONE;
        int least = OLDEST;
        for (int child = 0; child < now.children; child++) {
            if (now.homes[child] == house && now.dead[child] == 0) {
                greatest = Math.max(greatest, now.ages[child]);
                least = Math.min(least, now.ages[child]);
            }
        }
        return greatest == NONE ? NONE : greatest - least;
    }

    public int twins(int child) {
        if (!now.hasChild(child)) {
            return ABSENT;
        }
        int sum = 0;
        for (int other = 0; other < now.children; other++) {
            if (now.kinship(child, other) > 0 && now.dead[other] == 0
                    && now.ages[other] == now.ages[child]) {
                sum++;
            }
        }
        return sum;
    }

    public int hidden(int child, int ask) {
        if (!now.hasChild(child) || !now.hasAsk(ask)) {
            return ABSENT;
        }
        if (!now.isScholar(child)) {
            return NOBODY;
        }
        int sum = 0;
        for (int other = 0; other < now.children; other++) {
            if (now.counts(child, other, ask) > 0 && !now.isScholar(other)) {
                sum++;
            }
        }
        return sum;
    }

    // ------------------------------------------------- questions and answers

    public int slips(int what) {
        if (!now.stands() || !isEither(what)) {
            return ABSENT;
        }
        int sum = 0;
        int most = 0;
        int first = NONE;
        for (int child = 0; child < now.children; child++) {
            int slipped = now.isScholar(child) ? now.slipsOf(child) : 0;
            sum += slipped;
            if (slipped > most) {
                most = slipped;
                first = child;
            }
        }
        return what == 0 ? sum : first;
    }

    public int kinds(int ask) {
        if (!now.hasAsk(ask)) {
            return ABSENT;
        }
        answers.gather();
        return answers.unlike(ask);
    }

    public int crowd(int ask) {
        if (!now.hasAsk(ask)) {
            return ABSENT;
        }
        answers.gather();
        return answers.largestCrowd(ask);
    }

    public int next() {
        if (!now.stands()) {
            return ABSENT;
        }
        answers.gather();
        int first = NONE;
        int least = CHILDREN + 1;
        for (int ask = 0; ask < now.asks; ask++) {
            int crowded = answers.largestCrowd(ask);
            if (crowded < least) {
                least = crowded;
                first = ask;
            }
        }
        return first;
    }

    public int tells(int set) {
        if (!now.stands() || set < 0 || set > now.allAsks()) {
            return ABSENT;
        }
        answers.gather();
        return answers.toldBy(set);
    }

    public int fewest(int what) {
        if (!now.stands() || !isEither(what)) {
            return ABSENT;
        }
        answers.gather();
        int least = now.allAsks();
        int due = Integer.bitCount(answers.toldBy(least));
        for (int set = 0; set < now.allAsks(); set++) {
            if (Integer.bitCount(set) < Integer.bitCount(least)
                    && Integer.bitCount(answers.toldBy(set)) == due) {
                least = set;
            }
        }
        return what == 0 ? Integer.bitCount(least) : least;
    }

    public int like(int child) {
        if (!now.hasChild(child)) {
            return ABSENT;
        }
        if (!now.isScholar(child)) {
            return NOBODY;
        }
        answers.gather();
        return answers.couldBeOf(child);
    }

    public int most(int n) {
        if (!now.stands() || n < 0 || n > now.asks) {
            return ABSENT;
        }
        answers.gather();
        int greatest = 0;
        for (int set = 0; set <= now.allAsks(); set++) {
            if (Integer.bitCount(set) == n) {
                greatest = Math.max(greatest, Integer.bitCount(answers.toldBy(set)));
            }
        }
        return greatest;
    }

    public int fits(int child) {
        if (!now.hasChild(child)) {
            return ABSENT;
        }
        if (!now.isScholar(child)) {
            return NOBODY;
        }
        for (int other = 0; other < now.children; other++) {
            if (now.homes[other] == now.homes[child] && now.saysTruthsOf(child, other)) {
                return other;
            }
        }
        return NONE;
    }

    public int enough() {
        if (!now.stands()) {
            return ABSENT;
        }
        answers.gather();
        int due = now.seenIn(0);
        int sure = 0;
        for (int child = 0; child < now.children; child++) {
            int own = 1 << now.homes[child];
            if (now.isScholar(child) && answers.couldBeOf(child) == own) {
                sure |= own;
            }
        }
        return sure == due ? Integer.bitCount(due) : NONE;
    }

    public int clash(int ask) {
        if (!now.hasAsk(ask)) {
            return ABSENT;
        }
        answers.gather();
        int sum = 0;
        for (int child = 0; child < now.children; child++) {
            for (int other = child + 1; other < now.children; other++) {
                if (answers.clashes(child, other, ask)) {
                    sum++;
                }
            }
        }
        return sum;
    }

    // ------------------------------------------- rows of what children told

    public int least(int slot) {
        int told = loadTold(slot);
        return told < 0 ? told : joiner.fewestHouses();
    }

    public int greatest(int slot) {
        return loadTold(slot);
    }

    public int joinings(int slot) {
        int told = loadTold(slot);
        return told < 0 ? told : joiner.allWays();
    }

    public int by(int slot, int n) {
        int told = loadTold(slot);
        return told < 0 ? told : joiner.waysBy(n);
    }

    public int likely(int slot, int what) {
        if (!isEither(what)) {
            return ABSENT;
        }
        int told = loadTold(slot);
        return told < 0 ? told : (int) part(joiner.housesOfAllWays(), joiner.allWays(), what);
    }

    public int joined(int slot, int i, int k) {
        int told = loadTold(slot);
        if (told < 0) {
            return told;
        }
        if (i < 0 || i >= told || k < 0 || k >= told || i == k) {
            return ABSENT;
        }
        return joiner.waysTogether(i, k);
    }

    public int daughters(int slot, int what) {
        if (!isEither(what)) {
            return ABSENT;
        }
        int told = loadTold(slot);
        if (told < 0) {
            return told;
        }
        return what == 0 ? joiner.fewestDaughters() : joiner.mostDaughters();
    }

    public int sorts(int slot) {
        int told = loadTold(slot);
        return told < 0 ? told : joiner.unlikeHouses();
    }

    public int wrong(int slot) {
        int heard = lookAtHeard(slot);
        if (heard < 0) {
            return heard;
        }
        int sum = 0;
        for (int child = 0; child < now.children; child++) {
            sum += wrongOf(slots[slot], heard, child);
        }
        return sum;
    }

    public int bold(int slot) {
        int heard = lookAtHeard(slot);
        if (heard < 0) {
            return heard;
        }
        int first = NONE;
        int most = 0;
        for (int child = 0; child < now.children; child++) {
            int untrue = wrongOf(slots[slot], heard, child);
            if (untrue > most) {
                most = untrue;
                first = child;
            }
        }
        return first;
    }

    // --------------------------------------------- marriages, heirs and beds

    public int marriages(int gap) {
        if (!now.stands() || !isGap(gap)) {
            return ABSENT;
        }
        return matcher.mostPairs(now.allChildren(), gap);
    }

    public int between(int house, int other, int gap) {
        if (!now.hasHouse(house) || !now.hasHouse(other) || house == other || !isGap(gap)) {
            return ABSENT;
        }
        return matcher.mostPairs(now.childBits(house) | now.childBits(other), gap);
    }

    public int suits(int child, int gap) {
        if (!now.hasChild(child) || !isGap(gap)) {
            return ABSENT;
        }
        int sum = 0;
        for (int other = 0; other < now.children; other++) {
            if (matcher.canMatch(child, other, gap)) {
                sum++;
            }
        }
        return sum;
    }

    public int sought(int child, int gap) {
        if (!now.hasChild(child) || !isGap(gap)) {
            return ABSENT;
        }
        int all = now.allChildren();
        int without = matcher.mostPairs(all & ~(1 << child), gap);
        return without < matcher.mostPairs(all, gap) ? 1 : 0;
    }

    public int heir(int house, int law, int i) {
        if (!now.hasHouse(house) || !isLaw(law) || i < 0) {
            return ABSENT;
        }
        return household.heirAt(house, law, i);
    }

    public int place(int child, int law) {
        if (!now.hasChild(child) || !isLaw(law)) {
            return ABSENT;
        }
        return now.dead[child] == 1 ? NONE : household.rank(child, law);
    }

    public int quarrel(int law, int other) {
        if (!now.stands() || !isLaw(law) || !isLaw(other)) {
            return ABSENT;
        }
        int bits = 0;
        for (int house = 0; house < now.houses; house++) {
            if (household.heirAt(house, law, 0) != household.heirAt(house, other, 0)) {
                bits |= 1 << house;
            }
        }
        return bits;
    }

    public int beds(int house, int gap) {
        if (!now.hasHouse(house) || !isGap(gap)) {
            return ABSENT;
        }
        return household.fewestBeds(house, gap);
    }

    public int squeeze(int house, int n) {
        if (!now.hasHouse(house) || n < 0) {
            return ABSENT;
        }
        for (int gap = 0; gap <= OLDEST; gap++) {
            if (household.fewestBeds(house, gap) <= n) {
                return gap;
            }
        }
        return NONE;
    }

    // ---------------------------------------------------------- schools drawn

    public int drawn(int seed, int odds, int what) {
        if (!now.stands() || !isDraw(seed, odds) || what < 0 || what > 2) {
            return ABSENT;
        }
        int come = comers(seed, odds);
        switch (what) {
            case 0: return Integer.bitCount(come);
            case 1: return now.homesOf(come);
            default: return now.taleBy(come, ALL);
        }
    }

    public int seen(int seed, int n, int odds, int house) {
        if (!now.hasHouse(house) || !isDraw(seed, odds) || n < 1 || n > SCHOOLS_DRAWN) {
            return ABSENT;
        }
        int sum = 0;
        for (int i = 0; i < n; i++) {
            if (isIn(now.homesOf(comers(seed + i, odds)), house)) {
                sum++;
            }
        }
        return sum;
    }

    // --------------------------------------------- counts, images and slots

    public int count(int what) {
        switch (what) {
            case 0: return now.from;
            case 1: return now.to;
            case 2: return now.houses;
            case 3: return now.children;
            case 4: return now.asks;
            case 5: return Integer.bitCount(now.scholarBits());
            case 6: return now.lines;
            case 7: return tape.length;
            case 8: return now.yearsGone;
            case 9: return slotsWithRows();
            default: return NONE;
        }
    }

    public int image(int k) {
        if (k < 0 || k >= IMAGES) {
            return ABSENT;
        }
        images[k].copyFrom(now);
        imagesKept |= 1 << k;
        return 0;
    }

    public int back(int k) {
        if (k < 0 || k >= IMAGES) {
            return ABSENT;
        }
        if (!isIn(imagesKept, k)) {
            return EMPTY;
        }
        now.copyFrom(images[k]);
        return 0;
    }

    public int row(int slot, int width, int n) {
        if (!isSlot(slot) || width < 0 || width > 3 || n > ROW_LENGTH) {
            return ABSENT;
        }
        if (n < 0) {
            return TOO_MANY;
        }
        slots[slot].start(width, n);
        return 0;
    }

    public int write(int slot, int i, long v) {
        if (!isSlot(slot)) {
            return ABSENT;
        }
        if (!slots[slot].exists()) {
            return EMPTY;
        }
        if (!slots[slot].has(i, 1)) {
            return BEYOND;
        }
        slots[slot].put(i, v);
        return 0;
    }

    public int paste(int slot, int i, int to, int k, int n) {
        if (!isSlot(slot) || !isSlot(to)) {
            return ABSENT;
        }
        Row source = slots[slot];
        Row target = slots[to];
        if (!source.exists() || !target.exists()) {
            return EMPTY;
        }
        if (source.width != target.width) {
            return UNLIKE;
        }
        if (!source.has(i, n) || !target.has(k, n)) {
            return BEYOND;
        }
        System.arraycopy(source.numbers, i, target.numbers, k, n);
        return 0;
    }

    // ---------------------------------------------------------------- helpers

    private static boolean isSort(int sort) {
        return sort >= GIRL && sort <= ALL;
    }

    private static boolean isEither(int what) {
        return what == 0 || what == 1;
    }

    private static boolean isLaw(int law) {
        return law >= 0 && law <= 2;
    }

    private static boolean isGap(int gap) {
        return gap >= 0 && gap <= OLDEST;
    }

    private static boolean isSlot(int slot) {
        return slot >= 0 && slot < SLOTS;
    }

    private static boolean isDraw(int seed, int odds) {
        return seed >= 0 && seed <= GREATEST_SEED && odds >= 0 && odds <= 100;
    }

    private static boolean isIn(int bits, int i) {
        return (bits >> i & 1) == 1;
    }

    /** What stands above (what 0) or below (1) in the lowest terms of a fraction. */
    private static long part(long above, long below, int what) {
        long divisor = commonDivisor(above, below);
        if (divisor == 0) {
            return 0;
        }
        return (what == 0 ? above : below) / divisor;
    }

    private static long commonDivisor(long a, long b) {
        long divisor = a;
        long rest = b;
        // Euclid's way has far fewer than a hundred steps for numbers of 64 bits.
        for (int i = 0; i < 100 && rest != 0; i++) {
            long next = divisor % rest;
            divisor = rest;
            rest = next;
        }
        return divisor;
    }

    /** How many threes a slot's row has, or the code that refuses it. */
    private int threesOf(int slot) {
        if (!isSlot(slot) || !now.stands()) {
            return ABSENT;
        }
        if (!slots[slot].exists()) {
            return EMPTY;
        }
        int length = slots[slot].length;
        return length % 3 == 0 ? length / 3 : ABSENT;
    }

    /** Gives a row to the joiner: how many are told, or the code that refuses it. */
    private int loadTold(int slot) {
        int told = threesOf(slot);
        if (told < 0) {
            return told;
        }
        if (told > TOLD) {
            return TOO_MANY;
        }
        return joiner.load(slots[slot]) ? told : ABSENT;
    }

    /** How many answers were heard, or the code that refuses the row. */
    private int lookAtHeard(int slot) {
        int heard = threesOf(slot);
        for (int i = 0; i < heard; i++) {
            long child = slots[slot].numbers[3 * i];
            long ask = slots[slot].numbers[3 * i + 1];
            if (child < 0 || child >= now.children || ask < 0 || ask >= now.asks) {
                return ABSENT;
            }
        }
        return heard;
    }

    private int wrongOf(Row row, int heard, int child) {
        int sum = 0;
        for (int i = 0; i < heard; i++) {
            if (row.numbers[3 * i] == child) {
                int ask = (int) row.numbers[3 * i + 1];
                if (row.numbers[3 * i + 2] != now.truthOf(child, ask)) {
                    sum++;
                }
            }
        }
        return sum;
    }

    /** The scholars who come to a school drawn, as bits. */
    private int comers(int seed, int odds) {
        long x = seed;
        int bits = 0;
        for (int child = 0; child < now.children; child++) {
            if (now.isScholar(child)) {
                x = (1103515245L * x + 12345L) % 2147483648L;
                if (x / 65536 % 100 < odds) {
                    bits |= 1 << child;
                }
            }
        }
        return bits;
    }

    private int slotsWithRows() {
        int sum = 0;
        for (int slot = 0; slot < SLOTS; slot++) {
            if (slots[slot].exists()) {
                sum++;
            }
        }
        return sum;
    }

    // ----------------------------------------------------------- the classes

    /** The bytes that were fed and are not yet a town. */
    private static final class Tape {
        private static final int ROOM = 1200;
        private static final int FED_AT_ONCE = 20;

        final byte[] bytes = new byte[ROOM];
        int length = 0;

        boolean hasRoom() {
            return length + FED_AT_ONCE <= ROOM;
        }

        void append(int four) {
            for (int shift = 24; shift >= 0 && length < ROOM; shift -= 8) {
                bytes[length] = (byte) (four >> shift);
                length++;
            }
        }
    }

    /** Reads the tape token by token; what it takes behind a fault does nothing. */
    private static final class Reader {
        private static final int END = 0;
        private static final int WORD = 1;
        private static final int NUMBER = 2;
        private static final int SIGN = 3;
        private static final int STRANGE = 4;

        private static final int MISPLACED = 1;
        private static final int OUT_OF_BOUNDS = 2;
        private static final int ONE_TOO_MANY = 3;

        /** Above every bound, and far from an overflow by one more digit. */
        private static final int HUGE = 1000;

        private final Tape tape;
        private int at = 0;
        private int start = 0;
        private int kind = END;
        private int number = 0;
        int fault = 0;
        int faultPlace = NONE;

        Reader(Tape tape) {
            this.tape = tape;
        }

        void readInto(Town town) {
            town.clear();
            fault = 0;
            faultPlace = NONE;
            at = 0;
            step();
            for (int i = 0; i < tape.length && kind != END && fault == 0; i++) {
                readLine(town);
            }
        }

        private void readLine(Town town) {
            if (town.lines == 0) {
                readSchool(town);
            } else if (isWord("house")) {
                readHouse(town);
            } else if (isWord("girl")) {
                readChild(town, GIRL);
            } else if (isWord("boy")) {
                readChild(town, BOY);
            } else if (isWord("ask")) {
                readAsk(town);
            } else if (isWord("slip")) {
                readSlip(town);
            } else {
                fail(MISPLACED);
            }
            takeSign();
            town.lines++;
        }

        private void readSchool(Town town) {
            takeWord("town");
            takeWord("school");
            town.from = takeNumber(0, OLDEST_TOLD);
            takeWord("to");
            town.to = takeNumber(town.from, OLDEST_TOLD);
        }

        private void readHouse(Town town) {
            if (town.houses >= HOUSES) {
                fail(ONE_TOO_MANY);
                return;
            }
            step();
            town.houses++;
        }

        private void readChild(Town town, int sex) {
            if (town.houses == 0) {
                fail(MISPLACED);
                return;
            }
            if (town.children >= CHILDREN
                    || town.childrenOf(town.houses - 1, ALL) >= OF_A_HOUSE) {
                fail(ONE_TOO_MANY);
                return;
            }
            step();
            int child = town.children;
            town.homes[child] = town.houses - 1;
            town.sexes[child] = sex;
            town.ages[child] = takeNumber(0, OLDEST_TOLD);
            town.half[child] = takeIfWord("half");
            town.dead[child] = takeIfWord("dead");
            town.away[child] = takeIfWord("away");
            town.children++;
        }

        private void readAsk(Town town) {
            if (town.asks >= QUESTIONS) {
                fail(ONE_TOO_MANY);
                return;
            }
            step();
            int ask = town.asks;
            town.sorts[ask] = takeSort();
            if (takeIfWord("older") == 1) {
                town.orders[ask] = OLDER;
            } else {
                town.orders[ask] = takeIfWord("younger") == 1 ? YOUNGER : 0;
            }
            town.living[ask] = takeIfWord("living");
            town.whole[ask] = takeIfWord("whole");
            town.asks++;
        }

        private void readSlip(Town town) {
            step();
            int child = takeNumber(0, town.children - 1);
            int ask = takeNumber(0, town.asks - 1);
            int by = takeNumber(1, GREATEST_SLIP);
            if (fault == 0) {
                town.slipped[child * QUESTIONS + ask] = by;
            }
        }

        private int takeSort() {
            int sort = isWord("sisters") ? GIRL : isWord("brothers") ? BOY : ALL;
            if (sort == ALL && !isWord("all")) {
                fail(MISPLACED);
            } else {
                step();
            }
            return sort;
        }

        private void takeWord(String word) {
            if (fault == 0 && isWord(word)) {
                step();
            } else {
                fail(MISPLACED);
            }
        }

        private int takeIfWord(String word) {
            if (fault != 0 || !isWord(word)) {
                return 0;
            }
            step();
            return 1;
        }

        private int takeNumber(int low, int high) {
            int taken = number;
            if (kind != NUMBER) {
                fail(MISPLACED);
            } else if (taken < low || taken > high) {
                fail(OUT_OF_BOUNDS);
            }
            if (fault != 0) {
                return 0;
            }
            step();
            return taken;
        }

        private void takeSign() {
            if (kind != SIGN) {
                fail(MISPLACED);
            }
            if (fault == 0) {
                step();
            }
        }

        private void fail(int sort) {
            if (fault == 0) {
                fault = sort;
                faultPlace = start;
            }
        }

        private boolean isWord(String word) {
            if (kind != WORD || at - start != word.length()) {
                return false;
            }
            for (int i = 0; i < word.length(); i++) {
                if (tape.bytes[start + i] != word.charAt(i)) {
                    return false;
                }
            }
            return true;
        }

        /** Goes on to the next token. */
        private void step() {
            while (at < tape.length && isBlank(tape.bytes[at])) {
                at++;
            }
            start = at;
            kind = kindAt(at);
            number = 0;
            boolean isLong = kind == WORD || kind == NUMBER;
            for (; at < tape.length && kindAt(at) == kind && (isLong || at == start); at++) {
                if (kind == NUMBER) {
                    number = Math.min(HUGE, 10 * number + tape.bytes[at] - '0');
                }
            }
        }

        private static boolean isBlank(int sign) {
            return sign == ' ' || sign == '\n';
        }

        private int kindAt(int place) {
            if (place >= tape.length) {
                return END;
            }
            int sign = tape.bytes[place];
            if (sign >= 'a' && sign <= 'z') {
                return WORD;
            }
            if (sign >= '0' && sign <= '9') {
                return NUMBER;
            }
            return sign == ';' ? SIGN : STRANGE;
        }
    }

    /** A town and what follows from it for one child, one house or one set. */
    private static final class Town {
        int lines = 0;
        int from = 0;
        int to = 0;
        int houses = 0;
        int children = 0;
        int asks = 0;
        int yearsGone = 0;
        final int[] homes = new int[CHILDREN];
        final int[] sexes = new int[CHILDREN];
        final int[] ages = new int[CHILDREN];
        final int[] half = new int[CHILDREN];
        final int[] dead = new int[CHILDREN];
        final int[] away = new int[CHILDREN];
        final int[] sorts = new int[QUESTIONS];
        final int[] orders = new int[QUESTIONS];
        final int[] living = new int[QUESTIONS];
        final int[] whole = new int[QUESTIONS];
        final int[] slipped = new int[CHILDREN * QUESTIONS];

        /** A town without lines is none: then it has no houses, children, questions. */
        void clear() {
            lines = 0;
            from = 0;
            to = 0;
            houses = 0;
            children = 0;
            asks = 0;
            yearsGone = 0;
            Arrays.fill(slipped, 0);
        }

        void copyFrom(Town other) {
            lines = other.lines;
            from = other.from;
            to = other.to;
            houses = other.houses;
            children = other.children;
            asks = other.asks;
            yearsGone = other.yearsGone;
            System.arraycopy(other.homes, 0, homes, 0, CHILDREN);
            System.arraycopy(other.sexes, 0, sexes, 0, CHILDREN);
            System.arraycopy(other.ages, 0, ages, 0, CHILDREN);
            System.arraycopy(other.half, 0, half, 0, CHILDREN);
            System.arraycopy(other.dead, 0, dead, 0, CHILDREN);
            System.arraycopy(other.away, 0, away, 0, CHILDREN);
            System.arraycopy(other.sorts, 0, sorts, 0, QUESTIONS);
            System.arraycopy(other.orders, 0, orders, 0, QUESTIONS);
            System.arraycopy(other.living, 0, living, 0, QUESTIONS);
            System.arraycopy(other.whole, 0, whole, 0, QUESTIONS);
            System.arraycopy(other.slipped, 0, slipped, 0, CHILDREN * QUESTIONS);
        }

        boolean stands() {
            return lines > 0;
        }

        boolean hasHouse(int house) {
            return house >= 0 && house < houses;
        }

        boolean hasChild(int child) {
            return child >= 0 && child < children;
        }

        boolean hasAsk(int ask) {
            return ask >= 0 && ask < asks;
        }

        int allAsks() {
            return (1 << asks) - 1;
        }

        int allChildren() {
            return (1 << children) - 1;
        }

        boolean isOfSort(int child, int sort) {
            return sort == ALL || sexes[child] == sort;
        }

        boolean isLivingOf(int child, int sort) {
            return dead[child] == 0 && isOfSort(child, sort);
        }

        /** Whether it is of such an age and could sit at a school for it. */
        boolean isPresent(int child, int low, int high) {
            return dead[child] == 0 && away[child] == 0
                    && ages[child] >= low && ages[child] <= high;
        }

        boolean isScholar(int child) {
            return isPresent(child, from, to);
        }

        int scholarBits() {
            int bits = 0;
            for (int child = 0; child < children; child++) {
                if (isScholar(child)) {
                    bits |= 1 << child;
                }
            }
            return bits;
        }

        int scholarsOf(int house) {
            return Integer.bitCount(scholarBits() & childBits(house));
        }

        int childBits(int house) {
            int bits = 0;
            for (int child = 0; child < children; child++) {
                if (homes[child] == house) {
                    bits |= 1 << child;
                }
            }
            return bits;
        }

        int homesOf(int childBits) {
            int bits = 0;
            for (int child = 0; child < children; child++) {
                if (isIn(childBits, child)) {
                    bits |= 1 << homes[child];
                }
            }
            return bits;
        }

        /** Houses that are seen by a school for such ages, as bits. */
        int seenBetween(int low, int high) {
            int bits = 0;
            for (int child = 0; child < children; child++) {
                if (isPresent(child, low, high)) {
                    bits |= 1 << homes[child];
                }
            }
            return bits;
        }

        /** Houses that are seen so many years from now: the ages grow as the school would shrink. */
        int seenIn(int year) {
            return seenBetween(from - year, to - year);
        }

        int childrenOf(int house, int sort) {
            int sum = 0;
            for (int child = 0; child < children; child++) {
                if (homes[child] == house && isOfSort(child, sort)) {
                    sum++;
                }
            }
            return sum;
        }

        int firstOf(int house) {
            for (int child = 0; child < children; child++) {
                if (homes[child] == house) {
                    return child;
                }
            }
            return NONE;
        }

        int fullestHouse() {
            int greatest = 0;
            for (int house = 0; house < houses; house++) {
                greatest = Math.max(greatest, childrenOf(house, ALL));
            }
            return greatest;
        }

        int housesWithChildren() {
            return Integer.bitCount(homesOf(allChildren()));
        }

        int allOf(int sort) {
            int sum = 0;
            for (int child = 0; child < children; child++) {
                if (isOfSort(child, sort)) {
                    sum++;
                }
            }
            return sum;
        }

        int agesOf(int house) {
            int sum = 0;
            for (int child = 0; child < children; child++) {
                if (homes[child] == house) {
                    sum += ages[child];
                }
            }
            return sum;
        }

        int oldestOf(int sort) {
            int oldest = NONE;
            for (int child = 0; child < children; child++) {
                if (isLivingOf(child, sort)) {
                    oldest = Math.max(oldest, ages[child]);
                }
            }
            return oldest;
        }

        void growBy(int n) {
            for (int child = 0; child < children; child++) {
                if (dead[child] == 0) {
                    ages[child] += n;
                }
            }
            yearsGone += n;
        }

        void swapHomes(int child, int other) {
            int home = homes[child];
            homes[child] = homes[other];
            homes[other] = home;
        }

        /** Two for a whole sister or brother, one for a half one, 0 for itself and strangers. */
        int kinship(int child, int other) {
            if (child == other || homes[child] != homes[other]) {
                return 0;
            }
            return half[child] == half[other] ? 2 : 1;
        }

        /** What another one adds to a child's truth about a question. */
        int counts(int child, int other, int ask) {
            int kin = kinship(child, other);
            if (kin == 0 || !isOfSort(other, sorts[ask])) {
                return 0;
            }
            if (orders[ask] == OLDER && ages[other] <= ages[child]) {
                return 0;
            }
            if (orders[ask] == YOUNGER && ages[other] >= ages[child]) {
                return 0;
            }
            if (living[ask] == 1 && dead[other] == 1) {
                return 0;
            }
            return whole[ask] == 1 && kin == 1 ? 0 : kin;
        }

        int truthOf(int child, int ask) {
            int sum = 0;
            for (int other = 0; other < children; other++) {
                sum += counts(child, other, ask);
            }
            return sum;
        }

        int answerOf(int child, int ask) {
            return truthOf(child, ask) + slipped[child * QUESTIONS + ask];
        }

        int answersOf(int house, int ask) {
            int sum = 0;
            for (int child = 0; child < children; child++) {
                if (homes[child] == house && isScholar(child)) {
                    sum += answerOf(child, ask);
                }
            }
            return sum;
        }

        int slipsOf(int child) {
            int sum = 0;
            for (int ask = 0; ask < asks; ask++) {
                if (slipped[child * QUESTIONS + ask] != 0) {
                    sum++;
                }
            }
            return sum;
        }

        boolean saysTruthsOf(int child, int other) {
            for (int ask = 0; ask < asks; ask++) {
                if (answerOf(child, ask) != truthOf(other, ask)) {
                    return false;
                }
            }
            return true;
        }

        /** What a child knows of a sort in its house, itself among them: two for each. */
        int voice(int child, int sort) {
            int sum = isOfSort(child, sort) ? 2 : 0;
            for (int other = 0; other < children; other++) {
                if (isOfSort(other, sort)) {
                    sum += kinship(child, other);
                }
            }
            return sum;
        }

        int taleBy(int childBits, int sort) {
            int sum = 0;
            for (int child = 0; child < children; child++) {
                if (isIn(childBits, child)) {
                    sum += voice(child, sort);
                }
            }
            return sum / 2;
        }

        int censusOf(int house, int sort) {
            int greatest = 0;
            for (int child = 0; child < children; child++) {
                if (homes[child] == house && isScholar(child)) {
                    greatest = Math.max(greatest, voice(child, sort) / 2);
                }
            }
            return greatest;
        }
    }

    /** All answers, gathered once a call, for what compares them with one another. */
    private static final class Answers {
        private final Town town;
        private final int[] said = new int[CHILDREN * QUESTIONS];
        private int asked = 0;

        Answers(Town town) {
            this.town = town;
        }

        void gather() {
            asked = town.scholarBits();
            for (int child = 0; child < town.children; child++) {
                for (int ask = 0; ask < town.asks; ask++) {
                    said[child * QUESTIONS + ask] = town.answerOf(child, ask);
                }
            }
        }

        private int to(int ask, int child) {
            return said[child * QUESTIONS + ask];
        }

        /** How many scholars from one on answer as it does. */
        private int agreeing(int child, int ask, int first) {
            int sum = 0;
            for (int other = first; other < town.children; other++) {
                if (isIn(asked, other) && to(ask, other) == to(ask, child)) {
                    sum++;
                }
            }
            return sum;
        }

        int unlike(int ask) {
            int sum = 0;
            for (int child = 0; child < town.children; child++) {
                // Each answer is counted at the last scholar who gives it.
                if (isIn(asked, child) && agreeing(child, ask, child + 1) == 0) {
                    sum++;
                }
            }
            return sum;
        }

        int largestCrowd(int ask) {
            int greatest = 0;
            for (int child = 0; child < town.children; child++) {
                if (isIn(asked, child)) {
                    greatest = Math.max(greatest, agreeing(child, ask, 0));
                }
            }
            return greatest;
        }

        private boolean areAlike(int child, int other, int set) {
            for (int ask = 0; ask < town.asks; ask++) {
                if (isIn(set, ask) && to(ask, child) != to(ask, other)) {
                    return false;
                }
            }
            return true;
        }

        /** Houses of scholars who answer a set as a scholar does, its own among them. */
        private int likeOnes(int child, int set) {
            int bits = 0;
            for (int other = 0; other < town.children; other++) {
                if (isIn(asked, other) && areAlike(child, other, set)) {
                    bits |= 1 << town.homes[other];
                }
            }
            return bits;
        }

        int couldBeOf(int child) {
            return likeOnes(child, town.allAsks());
        }

        int toldBy(int set) {
            int bits = town.homesOf(asked);
            for (int child = 0; child < town.children; child++) {
                int own = 1 << town.homes[child];
                if (isIn(asked, child) && likeOnes(child, set) != own) {
                    bits &= ~own;
                }
            }
            return bits;
        }

        boolean clashes(int child, int other, int ask) {
            return isIn(asked, child) && isIn(asked, other)
                    && town.kinship(child, other) == 2
                    && town.sexes[child] == town.sexes[other]
                    && to(ask, child) != to(ask, other);
        }
    }

    /**
     * Which sums of voices sets of scholars have. A set's size and sum have a
     * number whose bit i tells whether the first i scholars have such a set:
     * that finds the least set without looking at every one.
     */
    private static final class Chooser {
        private static final int SUMS = 2 * OF_A_HOUSE * CHILDREN + 1;

        private final Town town;
        private final int[] who = new int[CHILDREN];
        private final int[] voices = new int[CHILDREN];
        private final int[] reached = new int[(CHILDREN + 1) * SUMS];
        private int due = 0;
        int size = 0;

        Chooser(Town town) {
            this.town = town;
        }

        void gather(int sort) {
            due = town.allOf(sort);
            size = 0;
            for (int child = 0; child < town.children; child++) {
                if (town.isScholar(child)) {
                    who[size] = child;
                    voices[size] = town.voice(child, sort);
                    size++;
                }
            }
            Arrays.fill(reached, 0);
            reached[0] = (1 << size + 1) - 1;
            int greatest = 0;
            for (int i = 1; i <= size; i++) {
                greatest += voices[i - 1];
                reachWith(i, Math.min(greatest, SUMS - 1));
            }
        }

        private boolean isReached(int n, int sum, int first) {
            return n >= 0 && sum >= 0 && isIn(reached[n * SUMS + sum], first);
        }

        private void reachWith(int i, int greatest) {
            int voice = voices[i - 1];
            for (int n = 1; n <= i; n++) {
                for (int sum = 0; sum <= greatest; sum++) {
                    if (isReached(n, sum, i - 1) || isReached(n - 1, sum - voice, i - 1)) {
                        reached[n * SUMS + sum] |= 1 << i;
                    }
                }
            }
        }

        private int farFromDue(int sum) {
            return Math.abs(sum / 2 - due);
        }

        int distance(int n) {
            int least = SUMS;
            for (int sum = 0; sum < SUMS; sum++) {
                if (isReached(n, sum, size)) {
                    least = Math.min(least, farFromDue(sum));
                }
            }
            return least;
        }

        int leastSet(int n, int distance) {
            int least = NONE;
            for (int sum = 0; sum < SUMS; sum++) {
                if (isReached(n, sum, size) && farFromDue(sum) == distance) {
                    int set = leastSetOf(n, sum);
                    least = least == NONE ? set : Math.min(least, set);
                }
            }
            return least;
        }

        /** Leaves out the highest scholar wherever those below can do without. */
        private int leastSetOf(int n, int sum) {
            int set = 0;
            int left = n;
            int rest = sum;
            for (int i = size; i > 0; i--) {
                if (!isReached(left, rest, i - 1)) {
                    set |= 1 << who[i - 1];
                    left--;
                    rest -= voices[i - 1];
                }
            }
            return set;
        }
    }

    /** Numbers of one width, or nothing. */
    private static final class Row {
        private static final int NO_ROW = -1;

        final long[] numbers = new long[ROW_LENGTH];
        int width = 0;
        int length = NO_ROW;

        boolean exists() {
            return length != NO_ROW;
        }

        void start(int newWidth, int n) {
            width = newWidth;
            length = n;
            Arrays.fill(numbers, 0L);
        }

        /** Whether n numbers from one on all stand in the row. */
        boolean has(int first, int n) {
            return first >= 0 && n >= 0 && (long) first + n <= length;
        }

        void put(int i, long v) {
            switch (width) {
                case 0:
                    numbers[i] = (byte) v;
                    break;
                case 1:
                    numbers[i] = (short) v;
                    break;
                case 2:
                    numbers[i] = (int) v;
                    break;
                default:
                    numbers[i] = v;
                    break;
            }
        }
    }

    /**
     * Ways to join unknown children to houses. Only those who tell of as many
     * girls and boys can be joined, so each such group is counted for itself.
     */
    private static final class Joiner {
        private static final int SIZES = TOLD + 1;
        private static final int GREATEST_NUMBER = 9;

        private final int[] sexes = new int[TOLD];
        private final int[] girls = new int[TOLD];
        private final int[] boys = new int[TOLD];
        /** By girls, boys, houses: the ways in which the group at hand parts so many. */
        private final int[] ways = new int[SIZES * SIZES * SIZES];
        private final int[] sums = new int[SIZES];
        private final int[] former = new int[SIZES];
        private int size = 0;

        boolean load(Row row) {
            size = Math.min(TOLD, row.length / 3);
            for (int i = 0; i < size; i++) {
                long sex = row.numbers[3 * i];
                long sisters = row.numbers[3 * i + 1];
                long brothers = row.numbers[3 * i + 2];
                if (sex < GIRL || sex > BOY || !isToldNumber(sisters) || !isToldNumber(brothers)) {
                    return false;
                }
                sexes[i] = (int) sex;
                girls[i] = (int) sisters + (sex == GIRL ? 1 : 0);
                boys[i] = (int) brothers + (sex == BOY ? 1 : 0);
            }
            return true;
        }

        private static boolean isToldNumber(long number) {
            return number >= 0 && number <= GREATEST_NUMBER;
        }

        private boolean tellAlike(int i, int k) {
            return girls[i] == girls[k] && boys[i] == boys[k];
        }

        private boolean isFirstOfGroup(int i) {
            for (int k = 0; k < i; k++) {
                if (tellAlike(i, k)) {
                    return false;
                }
            }
            return true;
        }

        private int groupOf(int i, int sex) {
            int sum = 0;
            for (int k = 0; k < size; k++) {
                if (tellAlike(i, k) && sexes[k] == sex) {
                    sum++;
                }
            }
            return sum;
        }

        private static int cell(int girlsLeft, int boysLeft, int houses) {
            return (girlsLeft * SIZES + boysLeft) * SIZES + houses;
        }

        private static int choose(int n, int k) {
            int chosen = 1;
            for (int i = 0; i < k; i++) {
                chosen = chosen * (n - i) / (i + 1);
            }
            return chosen;
        }

        /** Counts, for all smaller groups first, the ways of the group of child i. */
        private void partGroup(int i) {
            int allGirls = groupOf(i, GIRL);
            int allBoys = groupOf(i, BOY);
            for (int g = 0; g <= allGirls; g++) {
                for (int b = 0; b <= allBoys; b++) {
                    ways[cell(g, b, 0)] = g + b == 0 ? 1 : 0;
                    for (int houses = 1; houses <= size; houses++) {
                        ways[cell(g, b, houses)] = waysFromFirst(i, g, b, houses);
                    }
                }
            }
        }

        /** The first child of those left, a girl if there is one, is in some house. */
        private int waysFromFirst(int i, int g, int b, int houses) {
            if (g > 0) {
                return waysWith(i, g - 1, b, 1, 0, houses);
            }
            return b > 0 ? waysWith(i, 0, b - 1, 0, 1, houses) : 0;
        }

        /** One house has so many girls and boys already; who of the others joins them? */
        private int waysWith(int i, int g, int b, int girlsIn, int boysIn, int houses) {
            int sum = 0;
            for (int x = 0; x <= g && x + girlsIn <= girls[i]; x++) {
                for (int y = 0; y <= b && y + boysIn <= boys[i]; y++) {
                    sum += choose(g, x) * choose(b, y) * ways[cell(g - x, b - y, houses - 1)];
                }
            }
            return sum;
        }

        private int waysOfGroup(int i, int houses) {
            return ways[cell(groupOf(i, GIRL), groupOf(i, BOY), houses)];
        }

        /** For each number of houses the ways of all groups together. */
        private void sumUp() {
            Arrays.fill(sums, 0);
            sums[0] = 1;
            for (int i = 0; i < size; i++) {
                if (isFirstOfGroup(i)) {
                    partGroup(i);
                    addGroup(i);
                }
            }
        }

        private void addGroup(int i) {
            System.arraycopy(sums, 0, former, 0, SIZES);
            for (int n = 0; n <= size; n++) {
                int sum = 0;
                for (int own = 0; own <= n; own++) {
                    sum += waysOfGroup(i, own) * former[n - own];
                }
                sums[n] = sum;
            }
        }

        int fewestHouses() {
            sumUp();
            for (int n = 0; n < size; n++) {
                if (sums[n] > 0) {
                    return n;
                }
            }
            return size;
        }

        int waysBy(int n) {
            sumUp();
            return n >= 0 && n <= size ? sums[n] : 0;
        }

        int allWays() {
            sumUp();
            int sum = 0;
            for (int n = 0; n <= size; n++) {
                sum += sums[n];
            }
            return sum;
        }

        int housesOfAllWays() {
            sumUp();
            int sum = 0;
            for (int n = 0; n <= size; n++) {
                sum += n * sums[n];
            }
            return sum;
        }

        int waysTogether(int i, int k) {
            if (!tellAlike(i, k)) {
                return 0;
            }
            int product = 1;
            for (int first = 0; first < size; first++) {
                if (isFirstOfGroup(first)) {
                    partGroup(first);
                    boolean isTheirs = tellAlike(first, i);
                    product *= isTheirs ? waysOfPair(i, k) : waysByAnyHouses(first);
                }
            }
            return product;
        }

        private int waysOfPair(int i, int k) {
            int boysIn = sexes[i] + sexes[k];
            int girlsIn = 2 - boysIn;
            int g = groupOf(i, GIRL) - girlsIn;
            int b = groupOf(i, BOY) - boysIn;
            int sum = 0;
            for (int houses = 1; houses <= size; houses++) {
                sum += waysWith(i, g, b, girlsIn, boysIn, houses);
            }
            return sum;
        }

        private int waysByAnyHouses(int i) {
            int sum = 0;
            for (int houses = 0; houses <= size; houses++) {
                sum += waysOfGroup(i, houses);
            }
            return sum;
        }

        int fewestDaughters() {
            int sum = 0;
            for (int i = 0; i < size; i++) {
                if (isFirstOfGroup(i)) {
                    partGroup(i);
                    sum += girls[i] * fewestHousesOfGroup(i);
                }
            }
            return sum;
        }

        private int fewestHousesOfGroup(int i) {
            for (int houses = 0; houses < size; houses++) {
                if (waysOfGroup(i, houses) > 0) {
                    return houses;
                }
            }
            return size;
        }

        int mostDaughters() {
            int sum = 0;
            for (int i = 0; i < size; i++) {
                sum += girls[i];
            }
            return sum;
        }

        int unlikeHouses() {
            int sum = 0;
            for (int i = 0; i < size; i++) {
                if (isFirstOfGroup(i)) {
                    sum++;
                }
            }
            return sum;
        }
    }

    /** Matches girls and boys of unlike houses, as many as can be. */
    private static final class Matcher {
        private final Town town;
        private final int[] mates = new int[CHILDREN];
        private final int[] reachedFrom = new int[CHILDREN];
        private final int[] queue = new int[CHILDREN];

        Matcher(Town town) {
            this.town = town;
        }

        private boolean isOfAge(int child) {
            return town.dead[child] == 0 && town.ages[child] >= MARRIED_FROM;
        }

        boolean canMatch(int child, int other, int gap) {
            return isOfAge(child) && isOfAge(other)
                    && town.sexes[child] != town.sexes[other]
                    && town.homes[child] != town.homes[other]
                    && Math.abs(town.ages[child] - town.ages[other]) <= gap;
        }

        int mostPairs(int allowed, int gap) {
            Arrays.fill(mates, NONE);
            int pairs = 0;
            for (int girl = 0; girl < town.children; girl++) {
                if (isIn(allowed, girl) && town.sexes[girl] == GIRL
                        && findsPlace(girl, allowed, gap)) {
                    pairs++;
                }
            }
            return pairs;
        }

        /** Goes out from a girl by boys who suit and by the girls these would leave. */
        private boolean findsPlace(int girl, int allowed, int gap) {
            int reached = 0;
            int last = 1;
            queue[0] = girl;
            for (int first = 0; first < last; first++) {
                for (int boy = 0; boy < town.children; boy++) {
                    if (!isIn(allowed & ~reached, boy) || !canMatch(queue[first], boy, gap)) {
                        continue;
                    }
                    reached |= 1 << boy;
                    reachedFrom[boy] = queue[first];
                    if (mates[boy] == NONE) {
                        rejoin(boy);
                        return true;
                    }
                    if (last < CHILDREN) {
                        queue[last] = mates[boy];
                        last++;
                    }
                }
            }
            return false;
        }

        private void rejoin(int freeBoy) {
            int boy = freeBoy;
            for (int i = 0; i < CHILDREN && boy != NONE; i++) {
                int girl = reachedFrom[boy];
                int left = mates[girl];
                mates[girl] = boy;
                mates[boy] = girl;
                boy = left;
            }
        }
    }

    /** Heirs and beds of one house. */
    private static final class Household {
        private static final int BOYS_FIRST = 0;
        private static final int YOUNGEST_FIRST = 2;

        private final Town town;
        private final int[] sleepers = new int[CHILDREN];

        Household(Town town) {
            this.town = town;
        }

        private boolean isAhead(int child, int other, int law) {
            if (town.half[child] != town.half[other]) {
                return town.half[child] == 0;
            }
            if (law == BOYS_FIRST && town.sexes[child] != town.sexes[other]) {
                return town.sexes[child] == BOY;
            }
            int years = town.ages[child] - town.ages[other];
            if (law == YOUNGEST_FIRST) {
                return years < 0 || years == 0 && child > other;
            }
            return years > 0 || years == 0 && child < other;
        }

        /** How many heirs of its house are ahead of a child. */
        int rank(int child, int law) {
            int sum = 0;
            for (int other = 0; other < town.children; other++) {
                if (town.homes[other] == town.homes[child] && town.dead[other] == 0
                        && isAhead(other, child, law)) {
                    sum++;
                }
            }
            return sum;
        }

        int heirAt(int house, int law, int i) {
            for (int child = 0; child < town.children; child++) {
                if (town.homes[child] == house && town.dead[child] == 0
                        && rank(child, law) == i) {
                    return child;
                }
            }
            return NONE;
        }

        int fewestBeds(int house, int gap) {
            return bedsFor(house, GIRL, gap) + bedsFor(house, BOY, gap);
        }

        /** By age: who can share with the one below that lies alone does no harm by it. */
        private int bedsFor(int house, int sex, int gap) {
            int count = lineUp(house, sex);
            int beds = 0;
            int alone = NONE;
            for (int i = 0; i < count; i++) {
                if (alone != NONE && sleepers[i] - alone <= gap) {
                    alone = NONE;
                } else {
                    beds++;
                    alone = sleepers[i];
                }
            }
            return beds;
        }

        /** Puts the ages of those who sleep there in a row, the least first: how many. */
        private int lineUp(int house, int sex) {
            int count = 0;
            for (int child = 0; child < town.children; child++) {
                if (town.homes[child] == house && town.sexes[child] == sex
                        && town.isPresent(child, 0, OLDEST)) {
                    int i = count;
                    for (; i > 0 && sleepers[i - 1] > town.ages[child]; i--) {
                        sleepers[i] = sleepers[i - 1];
                    }
                    sleepers[i] = town.ages[child];
                    count++;
                }
            }
            return count;
        }
    }
}
