import java.util.Arrays;

/** A matchmaker's book: houses, persons, news of kin, customs, wishes and matches. */
public final class MatchBook {
    /** There is none. */
    public static final int NONE = -1;

    private static final int UNKNOWN = -100;
    private static final int NO_LIKING = -1000000;

    private static final int VILLAGES = 5;
    private static final int CLANS = 6;
    private static final int STARS = 8;
    private static final int HOUSES = 8;
    private static final int PERSONS = 20;
    private static final int NEWS = 60;
    private static final int MATCHES = 30;
    private static final int IMAGES = 3;
    private static final int TAPE = 500;
    private static final int FEED = 20;
    private static final int LONGEST_ROAD = 9;
    private static final int LAST_YEAR = 300;
    private static final int FIRST_BORN = -80;
    private static final int MOST_COINS = 100000;
    private static final int NO_KIN = 99;

    private static final int BRIDE = 0;
    private static final int GROOM = 1;

    private static final int ASKED = 0;
    private static final int PROMISED = 1;
    private static final int WED = 2;
    private static final int BROKEN = 3;
    private static final int ENDED = 4;

    /** The texts: customs of the villages first, then the wishes by kind. */
    private static final int WISHES = VILLAGES;
    private static final int TEXTS = VILLAGES + 2;
    private static final int LINES = 16;
    private static final int TESTS = 4;

    private static final int FAULT_GRAMMAR = 1;
    private static final int FAULT_BACK = 2;
    private static final int FAULT_MANY = 3;

    private static final int ACT_BAR = 0;
    private static final int ACT_GIFT = 1;
    private static final int ACT_BACK = 2;
    private static final int ACT_MORE = 3;
    private static final int ACT_LESS = 4;

    /** What tests ask about: five flags, then six facts. */
    private static final int CLAN = 0;
    private static final int HOME = 1;
    private static final int FEUD = 2;
    private static final int WIDOW = 3;
    private static final int ELDER = 4;
    private static final int STAR = 5;
    private static final int KIN = 6;
    private static final int AGE = 7;
    private static final int BRIDE_AGE = 8;
    private static final int GAP = 9;
    private static final int RICH = 10;
    private static final int FIRST_FACT = STAR;
    private static final int SUBJECTS = 11;

    /** How many of the free brides, and of the free grooms, are looked at for best, stable and rings. */
    private static final int SIDE = 8;
    private static final int RING = 4;

    private final Book book;
    private final Book[] images;
    private final Reader reader;
    private final Kinship kinship;
    private final Judge judge;
    private final Pairs pairs;
    private final Rings rings;

    public MatchBook() {
        book = new Book();
        images = new Book[IMAGES];
        reader = new Reader(book);
        kinship = new Kinship(book);
        judge = new Judge(book, kinship);
        pairs = new Pairs(book, judge);
        rings = new Rings(book, pairs);
    }

    public int house(int clan, int village, int coins) {
        if (!within(clan, 0, CLANS - 1) || !isVillage(village) || !within(coins, 0, MOST_COINS)) {
            return NONE;
        }
        return book.houses.add(clan, village, coins);
    }

    public int person(int house, int kind, int star, int born) {
        if (!book.houses.has(house) || !within(kind, BRIDE, GROOM) || !within(star, 0, STARS - 1)) {
            return NONE;
        }
        if (!within(born, FIRST_BORN, book.year)) {
            return NONE;
        }
        return book.persons.add(house, kind, star, born);
    }

    public boolean road(int a, int b, int years) {
        if (!isVillage(a) || !isVillage(b) || a == b) {
            return false;
        }
        if (years != NONE && !within(years, 0, LONGEST_ROAD)) {
            return false;
        }
        book.news.setRoad(a, b, years);
        kinship.forget();
        return true;
    }

    public boolean feud(int a, int b, boolean is) {
        Houses houses = book.houses;
        if (!houses.has(a) || !houses.has(b) || a == b || houses.atFeud(a, b) == is) {
            return false;
        }
        houses.setFeud(a, b, is);
        return true;
    }

    public int harvest(int house, int coins) {
        if (!book.houses.has(house) || !within(coins, 1, MOST_COINS)) {
            return NONE;
        }
        book.houses.coins[house] += coins;
        return book.houses.coins[house];
    }

    public int parent(int child, int parent, int village) {
        Persons persons = book.persons;
        if (!persons.has(child) || !persons.has(parent) || !isVillage(village)) {
            return NONE;
        }
        if (persons.born[parent] >= persons.born[child]) {
            return NONE;
        }
        kinship.forget();
        return book.news.add(child, parent, village, book.year);
    }

    public int heard(int k, int village) {
        if (!book.news.has(k) || !isVillage(village)) {
            return NONE;
        }
        return book.news.yearIn(k, village);
    }

    public boolean die(int person) {
        Persons persons = book.persons;
        if (!persons.has(person) || !persons.alive[person]) {
            return false;
        }
        int open = persons.open[person];
        if (book.matches.isOpen(open)) {
            closeMatch(open, ENDED);
        }
        persons.bury(person);
        return true;
    }

    public int year() {
        if (book.year >= LAST_YEAR) {
            return NONE;
        }
        book.year++;
        return book.year;
    }

    public int kin(int a, int b, int village, int year) {
        if (!isKinAsked(a, b, village, year)) {
            return NONE;
        }
        return kinship.steps(a, b, village, year);
    }

    public int chain(int a, int b, int village, int year, int k) {
        if (!isKinAsked(a, b, village, year)) {
            return NONE;
        }
        return kinship.link(a, b, village, year, k);
    }

    public int tell(int person, int what) {
        Persons persons = book.persons;
        if (!persons.has(person)) {
            return UNKNOWN;
        }
        switch (what) {
            case 0: return persons.house[person];
            case 1: return persons.kind[person];
            case 2: return persons.star[person];
            case 3: return persons.born[person];
            case 4: return book.year - persons.born[person];
            case 5: return bit(persons.alive[person]);
            case 6: return persons.spouse[person];
            case 7: return bit(persons.widow[person]);
            case 8: return persons.open[person];
            case 9: return bit(persons.isFree(person));
            default: return UNKNOWN;
        }
    }

    public int about(int house, int what) {
        Houses houses = book.houses;
        if (!houses.has(house)) {
            return NONE;
        }
        switch (what) {
            case 0: return houses.clan[house];
            case 1: return houses.village[house];
            case 2: return houses.coins[house];
            case 3: return houses.feuds[house];
            case 4: return book.persons.livingIn(house);
            default: return NONE;
        }
    }

    public int feed(int a, int b, int c, int d, int e) {
        if (book.tapeLength > TAPE - FEED) {
            return NONE;
        }
        book.write(a);
        book.write(b);
        book.write(c);
        book.write(d);
        book.write(e);
        return book.tapeLength;
    }

    public int end(int n) {
        if (!within(n, 0, book.tapeLength)) {
            return NONE;
        }
        book.tapeLength = n;
        return n;
    }

    public int text(int whose) {
        if (!within(whose, 0, TEXTS - 1)) {
            // The tape is taken all the same: only that no text is read.
            book.tapeLength = 0;
            book.fault = 0;
            book.faultPlace = NONE;
            return -2;
        }
        Text read = reader.take(whose >= WISHES);
        book.tapeLength = 0;
        book.fault = reader.fault;
        book.faultPlace = reader.faultPlace;
        if (read == null) {
            return NONE;
        }
        book.texts[whose] = read;
        return read.lines;
    }

    public int fault(int what) {
        switch (what) {
            case 0: return book.fault;
            case 1: return book.faultPlace;
            default: return NONE;
        }
    }

    public int read(int bride, int groom, int village, int what) {
        if (!isCouple(bride, groom) || !isVillage(village) || !within(what, 0, 3)) {
            return UNKNOWN;
        }
        judge.face(bride, groom);
        judge.readBy(book.texts[village], village);
        switch (what) {
            case 0: return bit(judge.why != NONE);
            case 1: return judge.why;
            case 2: return judge.gift;
            default: return judge.back;
        }
    }

    public boolean may(int bride, int groom) {
        return isCouple(bride, groom) && judge.letsWed(bride, groom);
    }

    public int liking(int person, int other) {
        Persons persons = book.persons;
        if (!persons.has(person) || !persons.has(other) || persons.kind[person] == persons.kind[other]) {
            return NO_LIKING;
        }
        return judge.likes(person, other);
    }

    public int ask(int bride, int groom) {
        if (!isCouple(bride, groom) || !book.persons.isFree(bride) || !book.persons.isFree(groom)) {
            return NONE;
        }
        if (book.matches.isFull() || !judge.letsWed(bride, groom)) {
            return NONE;
        }
        int match = book.matches.add(bride, groom, book.year);
        book.matches.gift[match] = judge.coupleGift;
        book.matches.back[match] = judge.coupleBack;
        book.persons.open[bride] = match;
        book.persons.open[groom] = match;
        return match;
    }

    public boolean promise(int match) {
        Matches matches = book.matches;
        if (!matches.standsAs(match, ASKED)) {
            return false;
        }
        int half = matches.gift[match] / 2;
        if (!book.houses.pay(hisHouse(match), herHouse(match), half)) {
            return false;
        }
        matches.paid[match] = half;
        matches.stand(match, PROMISED, book.year);
        return true;
    }

    public boolean wed(int match) {
        Matches matches = book.matches;
        if (!matches.standsAs(match, PROMISED)) {
            return false;
        }
        int bride = matches.bride[match];
        int groom = matches.groom[match];
        int rest = matches.gift[match] - matches.paid[match];
        int hers = herHouse(match);
        int his = hisHouse(match);
        if (!judge.letsWed(bride, groom) || !book.houses.pay(his, hers, rest)) {
            return false;
        }
        // The judge still has the facts as they were read, before the wedding changes them.
        matches.keepDay(match, judge.facts, book.customOf(hers), book.customOf(his));
        matches.paid[match] = matches.gift[match];
        book.houses.setFeud(hers, his, false);
        closeMatch(match, WED);
        book.persons.marry(bride, groom);
        return true;
    }

    public boolean breaks(int match, boolean bride) {
        Matches matches = book.matches;
        if (!matches.isOpen(match)) {
            return false;
        }
        if (bride && matches.stands[match] == PROMISED) {
            int paid = matches.paid[match];
            int owed = paid + paid * matches.back[match] / 100;
            if (!book.houses.pay(herHouse(match), hisHouse(match), owed)) {
                return false;
            }
            matches.paid[match] = 0;
        }
        closeMatch(match, BROKEN);
        return true;
    }

    public int match(int match, int what) {
        Matches matches = book.matches;
        if (!matches.has(match)) {
            return NONE;
        }
        switch (what) {
            case 0: return matches.bride[match];
            case 1: return matches.groom[match];
            case 2: return matches.stands[match];
            case 3: return matches.gift[match];
            case 4: return matches.back[match];
            case 5: return matches.paid[match];
            case 6: return matches.asked[match];
            case 7: return matches.since[match];
            case 8: return bit(judge.isLate(match));
            default: return NONE;
        }
    }

    public int late(int k) {
        int left = k;
        for (int match = 0; match < book.matches.count && left >= 0; match++) {
            if (judge.isLate(match)) {
                if (left == 0) {
                    return match;
                }
                left--;
            }
        }
        return NONE;
    }

    public int parts(int k) {
        int left = k;
        for (int bride = 0; bride < book.persons.count && left >= 0; bride++) {
            for (int groom = 0; groom < book.persons.count; groom++) {
                if (isCouple(bride, groom) && judge.wouldPart(bride, groom)) {
                    if (left == 0) {
                        return 100 * bride + groom;
                    }
                    left--;
                }
            }
        }
        return NONE;
    }

    public int best(int what) {
        if (!within(what, 0, 2)) {
            return NONE;
        }
        pairs.gather();
        pairs.settleBest();
        switch (what) {
            case 0: return pairs.weddings();
            case 1: return pairs.feudsEnded();
            default: return pairs.giftsTogether();
        }
    }

    public int bestFor(int person) {
        if (!book.persons.has(person)) {
            return NONE;
        }
        pairs.gather();
        pairs.settleBest();
        return pairs.partnerOf(person);
    }

    public int stable(int person) {
        if (!book.persons.has(person)) {
            return NONE;
        }
        pairs.gather();
        pairs.askLikings();
        pairs.settleStable();
        return pairs.partnerOf(person);
    }

    public int ring(int what) {
        if (!within(what, 0, 1)) {
            return NONE;
        }
        pairs.gather();
        rings.search();
        if (rings.size == 0) {
            return NONE;
        }
        return what == 0 ? rings.size : rings.gifts;
    }

    public int ringed(int k, int what) {
        if (!within(k, 0, RING - 1) || !within(what, 0, 2)) {
            return NONE;
        }
        pairs.gather();
        rings.search();
        if (k >= rings.size) {
            return NONE;
        }
        switch (what) {
            case 0: return rings.row[k];
            case 1: return rings.brideAt(k);
            default: return rings.groomAt(k);
        }
    }

    public int count(int what) {
        switch (what) {
            case 0: return book.houses.count;
            case 1: return book.persons.count;
            case 2: return book.news.count;
            case 3: return book.year;
            case 4: return book.matches.count;
            case 5: return book.matches.howMany(ASKED) + book.matches.howMany(PROMISED);
            case 6: return book.matches.howMany(WED);
            case 7: return book.houses.allFeuds();
            case 8: return book.houses.allCoins();
            case 9: return book.persons.allFree(BRIDE);
            case 10: return book.persons.allFree(GROOM);
            case 11: return judge.allLate();
            default: return UNKNOWN;
        }
    }

    public boolean image(int k) {
        if (!within(k, 0, IMAGES - 1)) {
            return false;
        }
        Book kept = images[k];
        if (kept == null) {
            kept = new Book();
            images[k] = kept;
        }
        kept.takeFrom(book);
        return true;
    }

    public boolean again(int k) {
        if (!within(k, 0, IMAGES - 1)) {
            return false;
        }
        Book kept = images[k];
        if (kept == null) {
            return false;
        }
        book.takeFrom(kept);
        kinship.forget();
        return true;
    }

    private boolean isKinAsked(int a, int b, int village, int year) {
        return book.persons.has(a) && book.persons.has(b) && isVillage(village) && within(year, 0, LAST_YEAR);
    }

    private boolean isCouple(int bride, int groom) {
        return book.persons.isOf(bride, BRIDE) && book.persons.isOf(groom, GROOM);
    }

    private int herHouse(int match) {
        return book.persons.house[book.matches.bride[match]];
    }

    private int hisHouse(int match) {
        return book.persons.house[book.matches.groom[match]];
    }

    private void closeMatch(int match, int how) {
        book.persons.open[book.matches.bride[match]] = NONE;
        book.persons.open[book.matches.groom[match]] = NONE;
        book.matches.stand(match, how, book.year);
    }

    private static boolean within(int number, int least, int most) {
        return number >= least && number <= most;
    }

    private static boolean isVillage(int village) {
        return within(village, 0, VILLAGES - 1);
    }

    private static int bit(boolean is) {
        return is ? 1 : 0;
    }

    private static void copy(int[] from, int[] to) {
        System.arraycopy(from, 0, to, 0, Math.min(from.length, to.length));
    }

    private static void copyFlags(boolean[] from, boolean[] to) {
        for (int at = 0; at < from.length && at < to.length; at++) {
            to[at] = from[at];
        }
    }

    private static void copyTexts(Text[] from, Text[] to) {
        for (int at = 0; at < from.length && at < to.length; at++) {
            to[at] = from[at];
        }
    }

    private static void clearRow(int[] row, int from, int length) {
        for (int at = from; at < from + length && at < row.length; at++) {
            row[at] = NONE;
        }
    }

    /** All that is told: what an image keeps. */
    private static final class Book {
        int year;
        final Houses houses = new Houses();
        final Persons persons = new Persons();
        final News news = new News();
        final Matches matches = new Matches();
        final Text[] texts = new Text[TEXTS];
        final byte[] tape = new byte[TAPE];
        int tapeLength;
        int fault;
        int faultPlace = NONE;

        Book() {
            Text empty = new Text(0, 0);
            for (int whose = 0; whose < TEXTS; whose++) {
                texts[whose] = empty;
            }
        }

        void write(int four) {
            for (int shift = 24; shift >= 0 && tapeLength < TAPE; shift -= 8) {
                tape[tapeLength] = (byte) (four >> shift);
                tapeLength++;
            }
        }

        int villageOf(int person) {
            return houses.village[persons.house[person]];
        }

        Text customOf(int house) {
            return texts[houses.village[house]];
        }

        void takeFrom(Book other) {
            year = other.year;
            houses.takeFrom(other.houses);
            persons.takeFrom(other.persons);
            news.takeFrom(other.news);
            matches.takeFrom(other.matches);
            copyTexts(other.texts, texts);
            System.arraycopy(other.tape, 0, tape, 0, other.tapeLength);
            tapeLength = other.tapeLength;
            fault = other.fault;
            faultPlace = other.faultPlace;
        }
    }

    private static final class Houses {
        int count;
        final int[] clan = new int[HOUSES];
        final int[] village = new int[HOUSES];
        final int[] coins = new int[HOUSES];
        final int[] feuds = new int[HOUSES];

        boolean has(int house) {
            return house >= 0 && house < count;
        }

        int add(int itsClan, int itsVillage, int itsCoins) {
            if (count >= HOUSES) {
                return NONE;
            }
            clan[count] = itsClan;
            village[count] = itsVillage;
            coins[count] = itsCoins;
            feuds[count] = 0;
            count++;
            return count - 1;
        }

        boolean atFeud(int a, int b) {
            return (feuds[a] >> b & 1) == 1;
        }

        void setFeud(int a, int b, boolean is) {
            if (is) {
                feuds[a] |= 1 << b;
                feuds[b] |= 1 << a;
            } else {
                feuds[a] &= ~(1 << b);
                feuds[b] &= ~(1 << a);
            }
        }

        boolean pay(int from, int to, int sum) {
            if (coins[from] < sum) {
                return false;
            }
            coins[from] -= sum;
            coins[to] += sum;
            return true;
        }

        int allFeuds() {
            int ends = 0;
            for (int house = 0; house < count; house++) {
                ends += Integer.bitCount(feuds[house]);
            }
            return ends / 2;
        }

        int allCoins() {
            int sum = 0;
            for (int house = 0; house < count; house++) {
                sum += coins[house];
            }
            return sum;
        }

        void takeFrom(Houses other) {
            count = other.count;
            copy(other.clan, clan);
            copy(other.village, village);
            copy(other.coins, coins);
            copy(other.feuds, feuds);
        }
    }

    private static final class Persons {
        int count;
        final int[] house = new int[PERSONS];
        final int[] kind = new int[PERSONS];
        final int[] star = new int[PERSONS];
        final int[] born = new int[PERSONS];
        final int[] spouse = new int[PERSONS];
        final int[] open = new int[PERSONS];
        final boolean[] alive = new boolean[PERSONS];
        final boolean[] widow = new boolean[PERSONS];
        /** Of brides alone: nobody asks it of grooms. */
        final boolean[] wasWed = new boolean[PERSONS];

        boolean has(int person) {
            return person >= 0 && person < count;
        }

        boolean isOf(int person, int itsKind) {
            return has(person) && kind[person] == itsKind;
        }

        boolean isFree(int person) {
            return alive[person] && spouse[person] == NONE && open[person] == NONE;
        }

        int add(int itsHouse, int itsKind, int itsStar, int itsBorn) {
            if (count >= PERSONS) {
                return NONE;
            }
            house[count] = itsHouse;
            kind[count] = itsKind;
            star[count] = itsStar;
            born[count] = itsBorn;
            spouse[count] = NONE;
            open[count] = NONE;
            alive[count] = true;
            widow[count] = false;
            wasWed[count] = false;
            count++;
            return count - 1;
        }

        void marry(int bride, int groom) {
            spouse[bride] = groom;
            spouse[groom] = bride;
            widow[bride] = false;
            wasWed[bride] = true;
        }

        void bury(int person) {
            alive[person] = false;
            int left = spouse[person];
            if (has(left)) {
                spouse[left] = NONE;
                spouse[person] = NONE;
                widow[left] = kind[left] == BRIDE;
            }
        }

        boolean hasElder(int bride) {
            for (int other = 0; other < count; other++) {
                if (kind[other] == BRIDE && house[other] == house[bride] && alive[other] && !wasWed[other]
                        && isAhead(other, bride)) {
                    return true;
                }
            }
            return false;
        }

        private boolean isAhead(int other, int bride) {
            return born[other] < born[bride] || born[other] == born[bride] && other < bride;
        }

        int livingIn(int itsHouse) {
            int sum = 0;
            for (int person = 0; person < count; person++) {
                if (house[person] == itsHouse && alive[person]) {
                    sum++;
                }
            }
            return sum;
        }

        int allFree(int itsKind) {
            int sum = 0;
            for (int person = 0; person < count; person++) {
                if (kind[person] == itsKind && isFree(person)) {
                    sum++;
                }
            }
            return sum;
        }

        void takeFrom(Persons other) {
            count = other.count;
            copy(other.house, house);
            copy(other.kind, kind);
            copy(other.star, star);
            copy(other.born, born);
            copy(other.spouse, spouse);
            copy(other.open, open);
            copyFlags(other.alive, alive);
            copyFlags(other.widow, widow);
            copyFlags(other.wasWed, wasWed);
        }
    }

    /** The roads, and what was told of parents; all news, old ones too, go by the roads of now. */
    private static final class News {
        int count;
        final int[] child = new int[NEWS];
        final int[] parent = new int[NEWS];
        final int[] toldAt = new int[NEWS];
        final int[] toldIn = new int[NEWS];
        private final int[] roads = new int[VILLAGES * VILLAGES];
        /** The years that the shortest way takes from village to village; NONE: there is no way. */
        private final int[] ways = new int[VILLAGES * VILLAGES];

        News() {
            Arrays.fill(roads, NONE);
            for (int village = 0; village < VILLAGES; village++) {
                roads[village * VILLAGES + village] = 0;
            }
            copy(roads, ways);
        }

        void setRoad(int a, int b, int years) {
            roads[a * VILLAGES + b] = years;
            roads[b * VILLAGES + a] = years;
            copy(roads, ways);
            for (int by = 0; by < VILLAGES; by++) {
                shortenWays(by);
            }
        }

        private void shortenWays(int by) {
            for (int from = 0; from < VILLAGES; from++) {
                int there = ways[from * VILLAGES + by];
                for (int to = 0; to < VILLAGES && there != NONE; to++) {
                    int onward = ways[by * VILLAGES + to];
                    if (onward != NONE) {
                        shorten(from * VILLAGES + to, there + onward);
                    }
                }
            }
        }

        private void shorten(int way, int years) {
            if (ways[way] == NONE || ways[way] > years) {
                ways[way] = years;
            }
        }

        boolean has(int k) {
            return k >= 0 && k < count;
        }

        /** The year in which a news is heard in a village; NONE: never. */
        int yearIn(int k, int village) {
            int years = ways[toldAt[k] * VILLAGES + village];
            return years == NONE ? NONE : toldIn[k] + years;
        }

        int add(int itsChild, int itsParent, int village, int year) {
            if (count >= NEWS) {
                return NONE;
            }
            child[count] = itsChild;
            parent[count] = itsParent;
            toldAt[count] = village;
            toldIn[count] = year;
            count++;
            return count - 1;
        }

        void takeFrom(News other) {
            count = other.count;
            copy(other.child, child);
            copy(other.parent, parent);
            copy(other.toldAt, toldAt);
            copy(other.toldIn, toldIn);
            copy(other.roads, roads);
            copy(other.ways, ways);
        }
    }

    private static final class Matches {
        int count;
        final int[] bride = new int[MATCHES];
        final int[] groom = new int[MATCHES];
        final int[] stands = new int[MATCHES];
        final int[] gift = new int[MATCHES];
        final int[] back = new int[MATCHES];
        final int[] paid = new int[MATCHES];
        final int[] asked = new int[MATCHES];
        final int[] since = new int[MATCHES];
        /** Of weddings: facts and both texts of the day. */
        final int[] facts = new int[MATCHES * SUBJECTS];
        final Text[] herText = new Text[MATCHES];
        final Text[] hisText = new Text[MATCHES];

        boolean has(int match) {
            return match >= 0 && match < count;
        }

        boolean isFull() {
            return count >= MATCHES;
        }

        boolean standsAs(int match, int how) {
            return has(match) && stands[match] == how;
        }

        boolean isOpen(int match) {
            return standsAs(match, ASKED) || standsAs(match, PROMISED);
        }

        int add(int itsBride, int itsGroom, int year) {
            bride[count] = itsBride;
            groom[count] = itsGroom;
            paid[count] = 0;
            asked[count] = year;
            stand(count, ASKED, year);
            count++;
            return count - 1;
        }

        void stand(int match, int how, int year) {
            stands[match] = how;
            since[match] = year;
        }

        void keepDay(int match, int[] itsFacts, Text hers, Text his) {
            System.arraycopy(itsFacts, 0, facts, match * SUBJECTS, SUBJECTS);
            herText[match] = hers;
            hisText[match] = his;
        }

        int howMany(int how) {
            int sum = 0;
            for (int match = 0; match < count; match++) {
                if (stands[match] == how) {
                    sum++;
                }
            }
            return sum;
        }

        void takeFrom(Matches other) {
            count = other.count;
            copy(other.bride, bride);
            copy(other.groom, groom);
            copy(other.stands, stands);
            copy(other.gift, gift);
            copy(other.back, back);
            copy(other.paid, paid);
            copy(other.asked, asked);
            copy(other.since, since);
            copy(other.facts, facts);
            copyTexts(other.herText, herText);
            copyTexts(other.hisText, hisText);
        }
    }

    /** A text that was taken; never changed, so that weddings and images may share it. */
    private static final class Text {
        final int lines;
        final int[] act;
        final int[] number;
        /** Line n has the tests from firstTest[n] up to firstTest[n + 1]. */
        final int[] firstTest;
        final int[] subject;
        /** 0 for a flag. */
        final int[] sign;
        final int[] bound;
        final boolean[] not;

        Text(int lines, int tests) {
            this.lines = lines;
            act = new int[lines];
            number = new int[lines];
            firstTest = new int[lines + 1];
            subject = new int[tests];
            sign = new int[tests];
            bound = new int[tests];
            not = new boolean[tests];
        }

        boolean asksKin() {
            for (int test = 0; test < subject.length; test++) {
                if (subject[test] == KIN) {
                    return true;
                }
            }
            return false;
        }

        boolean holds(int line, int[] facts) {
            for (int test = firstTest[line]; test < firstTest[line + 1]; test++) {
                if (passes(test, facts[subject[test]]) == not[test]) {
                    return false;
                }
            }
            return true;
        }

        private boolean passes(int test, int fact) {
            switch (sign[test]) {
                case '<': return fact < bound[test];
                case '>': return fact > bound[test];
                case '=': return fact == bound[test];
                default: return fact != 0;
            }
        }
    }

    /** Reads the tape as a text, or finds its fault. */
    private static final class Reader {
        private static final int END = 0;
        private static final int WORD = 1;
        private static final int NUMBER = 2;
        private static final int SIGN = 3;
        private static final int BLANK = 4;
        private static final int STRANGE = 5;
        private static final int DIGITS = 4;

        private final Book book;
        /** The token at hand: its kind, first byte, the byte behind it, and a number's worth. */
        private int token;
        private int place;
        private int next;
        private int worth;
        private boolean wish;
        private int lines;
        private int tests;
        private int testsOfLine;
        int fault;
        int faultPlace;
        private final Text draft = new Text(LINES, LINES * TESTS);

        Reader(Book book) {
            this.book = book;
        }

        /** Null: there is a fault. */
        Text take(boolean isWish) {
            wish = isWish;
            next = 0;
            lines = 0;
            tests = 0;
            fault = 0;
            faultPlace = NONE;
            advance();
            boolean good = true;
            for (int line = 0; line <= TAPE && good && token != END; line++) {
                good = readLine();
            }
            return fault == 0 ? fairCopy() : null;
        }

        private Text fairCopy() {
            Text text = new Text(lines, tests);
            copy(draft.act, text.act);
            copy(draft.number, text.number);
            copy(draft.firstTest, text.firstTest);
            copy(draft.subject, text.subject);
            copy(draft.sign, text.sign);
            copy(draft.bound, text.bound);
            copyFlags(draft.not, text.not);
            return text;
        }

        private boolean readLine() {
            testsOfLine = 0;
            if (lines >= LINES) {
                note(FAULT_MANY);
            }
            if (isWord("if") && !readTests()) {
                return false;
            }
            return readAct() && takeSign(';');
        }

        private boolean readTests() {
            boolean more = true;
            for (int test = 0; test <= TAPE && more; test++) {
                advance();
                if (!readTest()) {
                    return false;
                }
                more = isWord("and");
            }
            return takeSign(':');
        }

        private boolean readTest() {
            if (testsOfLine >= TESTS) {
                note(FAULT_MANY);
            }
            boolean not = isWord("not");
            if (not) {
                advance();
            }
            int subject = subjectAtHand();
            if (subject == NONE) {
                return refuse();
            }
            advance();
            if (subject < FIRST_FACT) {
                keepTest(subject, 0, 0, not);
                return true;
            }
            if (!isSign('<') && !isSign('>') && !isSign('=')) {
                return refuse();
            }
            int sign = book.tape[place];
            advance();
            if (token != NUMBER) {
                return refuse();
            }
            keepTest(subject, sign, worth, not);
            advance();
            return true;
        }

        private void keepTest(int subject, int sign, int bound, boolean not) {
            if (fault == 0) {
                draft.subject[tests] = subject;
                draft.sign[tests] = sign;
                draft.bound[tests] = bound;
                draft.not[tests] = not;
                tests++;
                testsOfLine++;
            }
        }

        private boolean readAct() {
            int act = actAtHand();
            if (act == NONE) {
                return refuse();
            }
            advance();
            int number = 0;
            if (act != ACT_BAR) {
                if (token != NUMBER) {
                    return refuse();
                }
                if (act == ACT_BACK && worth > 100) {
                    note(FAULT_BACK);
                }
                number = worth;
                advance();
            }
            keepLine(act, number);
            return true;
        }

        private void keepLine(int act, int number) {
            if (fault == 0) {
                draft.act[lines] = act;
                draft.number[lines] = number;
                lines++;
                draft.firstTest[lines] = tests;
            }
        }

        private boolean takeSign(char sign) {
            if (!isSign(sign)) {
                return refuse();
            }
            advance();
            return true;
        }

        /** Nothing outweighs a token that no text goes on with. */
        private boolean refuse() {
            fault = FAULT_GRAMMAR;
            faultPlace = place;
            return false;
        }

        private void note(int itsFault) {
            if (fault == 0) {
                fault = itsFault;
                faultPlace = place;
            }
        }

        private int subjectAtHand() {
            if (isWord("clan")) return CLAN;
            if (isWord("home")) return HOME;
            if (isWord("feud")) return FEUD;
            if (isWord("widow")) return WIDOW;
            if (isWord("elder")) return ELDER;
            if (isWord("star")) return STAR;
            if (isWord("kin")) return KIN;
            if (isWord("age")) return AGE;
            if (isWord("bride")) return BRIDE_AGE;
            if (isWord("gap")) return GAP;
            if (isWord("rich")) return RICH;
            return NONE;
        }

        private int actAtHand() {
            if (wish) {
                if (isWord("more")) return ACT_MORE;
                if (isWord("less")) return ACT_LESS;
                return NONE;
            }
            if (isWord("bar")) return ACT_BAR;
            if (isWord("gift")) return ACT_GIFT;
            if (isWord("back")) return ACT_BACK;
            return NONE;
        }

        private boolean isWord(String word) {
            if (token != WORD || next - place != word.length()) {
                return false;
            }
            for (int at = 0; at < word.length(); at++) {
                if (book.tape[place + at] != word.charAt(at)) {
                    return false;
                }
            }
            return true;
        }

        private boolean isSign(char sign) {
            return token == SIGN && book.tape[place] == sign;
        }

        private void advance() {
            while (next < book.tapeLength && kindOf(book.tape[next]) == BLANK) {
                next++;
            }
            place = next;
            token = END;
            if (next < book.tapeLength) {
                token = kindOf(book.tape[next]);
                next++;
            }
            if (token == WORD || token == NUMBER) {
                while (next < book.tapeLength && kindOf(book.tape[next]) == token) {
                    next++;
                }
            }
            if (token == NUMBER) {
                measure();
            }
        }

        private void measure() {
            worth = 0;
            for (int at = place; at < next; at++) {
                worth = worth * 10 + (book.tape[at] - '0');
            }
            if (next - place > DIGITS) {
                token = STRANGE;
            }
        }

        /** Which kind of token has such a byte. */
        private static int kindOf(byte sign) {
            if (sign >= 'a' && sign <= 'z') {
                return WORD;
            }
            if (sign >= '0' && sign <= '9') {
                return NUMBER;
            }
            if (sign == ':' || sign == ';' || sign == '<' || sign == '>' || sign == '=') {
                return SIGN;
            }
            return sign == ' ' || sign == '\n' ? BLANK : STRANGE;
        }
    }

    /** Who is kin to whom, as heard in a village by a year. */
    private static final class Kinship {
        private static final int PARENTS = 2;
        private static final int TABLE = PERSONS * PARENTS;

        private final Book book;
        /** Of each village, the year by which its table has what was heard; NONE: it is not filled. */
        private final int[] filledFor = new int[VILLAGES];
        /** A table for each village: of each person the mother, then the father. */
        private final int[] parents = new int[VILLAGES * TABLE];
        private final int[] upFromA = new int[PERSONS];
        private final int[] upFromB = new int[PERSONS];
        private final int[] upToForebear = new int[PERSONS];
        private final int[] queue = new int[PERSONS];
        /** Where the table at hand begins. */
        private int table;

        Kinship(Book book) {
            this.book = book;
            Arrays.fill(filledFor, NONE);
        }

        /** To be called when news come or go, or roads change. */
        void forget() {
            Arrays.fill(filledFor, NONE);
        }

        int steps(int a, int b, int village, int year) {
            int forebear = nearest(a, b, village, year);
            return forebear == NONE ? NO_KIN : upFromA[forebear] + upFromB[forebear];
        }

        int link(int a, int b, int village, int year, int k) {
            int forebear = nearest(a, b, village, year);
            if (forebear == NONE || k < 0 || k > upFromA[forebear] + upFromB[forebear]) {
                return NONE;
            }
            return k <= upFromA[forebear] ? rise(a, forebear, k) : sink(forebear, k - upFromA[forebear]);
        }

        /** The forebear of the chain; NONE without. */
        private int nearest(int a, int b, int village, int year) {
            table = village * TABLE;
            if (filledFor[village] != year) {
                fill(village, year);
            }
            climb(a, upFromA);
            climb(b, upFromB);
            int found = NONE;
            for (int person = 0; person < book.persons.count; person++) {
                if (upFromA[person] != NONE && upFromB[person] != NONE
                        && (found == NONE || isNearer(person, found))) {
                    found = person;
                }
            }
            return found;
        }

        private boolean isNearer(int person, int found) {
            int way = upFromA[person] + upFromB[person];
            int foundWay = upFromA[found] + upFromB[found];
            return way < foundWay || way == foundWay && upFromA[person] < upFromA[found];
        }

        private void fill(int village, int year) {
            filledFor[village] = year;
            clearRow(parents, table, TABLE);
            News news = book.news;
            for (int k = 0; k < news.count; k++) {
                int heardYear = news.yearIn(k, village);
                if (heardYear != NONE && heardYear <= year) {
                    int parent = news.parent[k];
                    parents[table + news.child[k] * PARENTS + book.persons.kind[parent]] = parent;
                }
            }
        }

        /** The fewest steps up from a person to each of its forebears; NONE for others. */
        private void climb(int person, int[] up) {
            Arrays.fill(up, NONE);
            up[person] = 0;
            queue[0] = person;
            int queued = 1;
            for (int at = 0; at < queued && at < PERSONS; at++) {
                int first = table + queue[at] * PARENTS;
                for (int place = first; place < first + PARENTS; place++) {
                    int parent = parents[place];
                    if (parent != NONE && up[parent] == NONE && queued < PERSONS) {
                        up[parent] = up[queue[at]] + 1;
                        queue[queued] = parent;
                        queued++;
                    }
                }
            }
        }

        /** The fewest steps up to the forebear from each person below it; NONE for others. */
        private void descend(int forebear) {
            Arrays.fill(upToForebear, NONE);
            upToForebear[forebear] = 0;
            queue[0] = forebear;
            int queued = 1;
            for (int at = 0; at < queued && at < PERSONS; at++) {
                for (int child = 0; child < book.persons.count; child++) {
                    if (isChildOf(child, queue[at]) && upToForebear[child] == NONE && queued < PERSONS) {
                        upToForebear[child] = upToForebear[queue[at]] + 1;
                        queue[queued] = child;
                        queued++;
                    }
                }
            }
        }

        private boolean isChildOf(int child, int person) {
            int first = table + child * PARENTS;
            return parents[first] == person || parents[first + 1] == person;
        }

        /** The k-th person of the least row up from a to the forebear. */
        private int rise(int a, int forebear, int k) {
            descend(forebear);
            int at = a;
            for (int step = 1; step <= k && at != NONE; step++) {
                at = leastParent(at, upFromA[forebear] - step);
            }
            return at;
        }

        private int leastParent(int person, int stepsLeft) {
            for (int parent = 0; parent < book.persons.count; parent++) {
                if (isChildOf(person, parent) && upToForebear[parent] == stepsLeft) {
                    return parent;
                }
            }
            return NONE;
        }

        /** The k-th person of the least row down from the forebear to b. */
        private int sink(int forebear, int k) {
            int at = forebear;
            for (int step = 1; step <= k && at != NONE; step++) {
                at = leastChild(at, upFromB[forebear] - step);
            }
            return at;
        }

        private int leastChild(int person, int stepsLeft) {
            for (int child = 0; child < book.persons.count; child++) {
                if (isChildOf(child, person) && upFromB[child] == stepsLeft) {
                    return child;
                }
            }
            return NONE;
        }
    }

    /** Reads couples by customs and wishes. */
    private static final class Judge {
        private final Book book;
        private final Kinship kinship;
        private int bride;
        private int groom;
        /** Flags and facts of the couple at hand. */
        final int[] facts = new int[SUBJECTS];
        /** What the latest custom said of it. */
        int why;
        int gift;
        int back;
        /** What both customs said of it. */
        int coupleGift;
        int coupleBack;

        Judge(Book book, Kinship kinship) {
            this.book = book;
            this.kinship = kinship;
        }

        /** Takes a couple in hand; its kin waits for a village. */
        void face(int itsBride, int itsGroom) {
            bride = itsBride;
            groom = itsGroom;
            Persons persons = book.persons;
            Houses houses = book.houses;
            int hers = persons.house[bride];
            int his = persons.house[groom];
            int starsApart = Math.abs(persons.star[bride] - persons.star[groom]);
            facts[CLAN] = bit(houses.clan[hers] == houses.clan[his]);
            facts[HOME] = bit(houses.village[hers] == houses.village[his]);
            facts[FEUD] = bit(houses.atFeud(hers, his));
            facts[WIDOW] = bit(persons.widow[bride]);
            facts[ELDER] = bit(persons.hasElder(bride));
            facts[STAR] = Math.min(starsApart, STARS - starsApart);
            facts[AGE] = book.year - persons.born[groom];
            facts[BRIDE_AGE] = book.year - persons.born[bride];
            facts[GAP] = Math.abs(persons.born[bride] - persons.born[groom]);
            facts[RICH] = houses.coins[his];
        }

        /** By a text of a village, which need not be that of now; with kin as heard there now. */
        void readBy(Text custom, int village) {
            if (custom.asksKin()) {
                facts[KIN] = kinship.steps(bride, groom, village, book.year);
            }
            why = NONE;
            gift = 0;
            back = 0;
            for (int line = 0; line < custom.lines; line++) {
                if (custom.holds(line, facts)) {
                    obey(custom, line);
                }
            }
        }

        private void obey(Text custom, int line) {
            switch (custom.act[line]) {
                case ACT_BAR:
                    why = why == NONE ? line : why;
                    break;
                case ACT_GIFT:
                    gift += custom.number[line];
                    break;
                default:
                    back = custom.number[line];
                    break;
            }
        }

        /** Whether they may wed; their gift and back, too. */
        boolean letsWed(int itsBride, int itsGroom) {
            face(itsBride, itsGroom);
            int hers = book.persons.house[bride];
            int his = book.persons.house[groom];
            readBy(book.customOf(hers), book.houses.village[hers]);
            boolean barred = why != NONE;
            coupleGift = gift;
            coupleBack = back;
            readBy(book.customOf(his), book.houses.village[his]);
            coupleGift = Math.max(coupleGift, gift);
            return hers != his && !barred && why == NONE;
        }

        int likes(int person, int other) {
            Persons persons = book.persons;
            boolean isBride = persons.kind[person] == BRIDE;
            Text wish = book.texts[WISHES + persons.kind[person]];
            face(isBride ? person : other, isBride ? other : person);
            facts[RICH] = book.houses.coins[persons.house[other]];
            if (wish.asksKin()) {
                facts[KIN] = kinship.steps(bride, groom, book.villageOf(person), book.year);
            }
            int liking = 0;
            for (int line = 0; line < wish.lines; line++) {
                if (wish.holds(line, facts)) {
                    liking += wish.act[line] == ACT_LESS ? -wish.number[line] : wish.number[line];
                }
            }
            return liking;
        }

        boolean isLate(int match) {
            Matches matches = book.matches;
            if (!matches.standsAs(match, WED)) {
                return false;
            }
            Text hers = matches.herText[match];
            Text his = matches.hisText[match];
            if (hers == null || his == null) {
                return false;
            }
            bride = matches.bride[match];
            groom = matches.groom[match];
            System.arraycopy(matches.facts, match * SUBJECTS, facts, 0, SUBJECTS);
            readBy(hers, book.villageOf(bride));
            if (why == NONE) {
                readBy(his, book.villageOf(groom));
            }
            return why != NONE;
        }

        int allLate() {
            int sum = 0;
            for (int match = 0; match < book.matches.count; match++) {
                if (isLate(match)) {
                    sum++;
                }
            }
            return sum;
        }

        boolean wouldPart(int itsBride, int itsGroom) {
            Matches matches = book.matches;
            int hers = book.persons.open[itsBride];
            int his = book.persons.open[itsGroom];
            if (hers == his || !matches.isOpen(hers) || !matches.isOpen(his)) {
                return false;
            }
            return letsWed(itsBride, itsGroom)
                    && likes(itsBride, itsGroom) > likes(itsBride, matches.groom[hers])
                    && likes(itsGroom, itsBride) > likes(itsGroom, matches.bride[his]);
        }
    }

    /** The first free brides and grooms, and ways to pair them; places in tables are bride times SIDE and groom. */
    private static final class Pairs {
        /** More than the gifts of eight weddings together can be. */
        private static final int FEUD_WORTH = 2000000;
        /** More than eight feuds can be worth. */
        private static final int WEDDING_WORTH = 20000000;

        private final Book book;
        private final Judge judge;
        final int[] brides = new int[SIDE];
        final int[] grooms = new int[SIDE];
        int brideCount;
        int groomCount;
        final boolean[] may = new boolean[SIDE * SIDE];
        final int[] gifts = new int[SIDE * SIDE];
        private final boolean[] feuds = new boolean[SIDE * SIDE];
        private final int[] coupleWorths = new int[SIDE * SIDE];
        private final int[] herLiking = new int[SIDE * SIDE];
        private final int[] hisLiking = new int[SIDE * SIDE];
        private final boolean[] asked = new boolean[SIDE * SIDE];
        /** The most that brides from one on can be worth, by the grooms taken: bride times 256 and a bit for each. */
        private final int[] worths = new int[(SIDE + 1) << SIDE];
        /** By brides, the place of the groom; NONE. */
        private final int[] groomOf = new int[SIDE];

        Pairs(Book book, Judge judge) {
            this.book = book;
            this.judge = judge;
        }

        void gather() {
            brideCount = pick(BRIDE, brides);
            groomCount = pick(GROOM, grooms);
            for (int bride = 0; bride < brideCount; bride++) {
                for (int groom = 0; groom < groomCount; groom++) {
                    int place = bride * SIDE + groom;
                    may[place] = judge.letsWed(brides[bride], grooms[groom]);
                    gifts[place] = judge.coupleGift;
                    feuds[place] = judge.facts[FEUD] == 1;
                    coupleWorths[place] = WEDDING_WORTH - gifts[place] + (feuds[place] ? FEUD_WORTH : 0);
                }
            }
        }

        private int pick(int kind, int[] row) {
            int picked = 0;
            for (int person = 0; person < book.persons.count && picked < SIDE; person++) {
                if (book.persons.kind[person] == kind && book.persons.isFree(person)) {
                    row[picked] = person;
                    picked++;
                }
            }
            return picked;
        }

        void settleBest() {
            Arrays.fill(groomOf, NONE);
            int sets = 1 << groomCount;
            for (int taken = 0; taken < sets; taken++) {
                worths[(brideCount << SIDE) + taken] = 0;
            }
            for (int bride = brideCount - 1; bride >= 0; bride--) {
                for (int taken = 0; taken < sets; taken++) {
                    // The brides ahead of her take no more grooms than they are.
                    if (Integer.bitCount(taken) <= bride) {
                        worths[(bride << SIDE) + taken] = mostWorth(bride, taken);
                    }
                }
            }
            int taken = 0;
            for (int bride = 0; bride < brideCount; bride++) {
                groomOf[bride] = leastChoice(bride, taken);
                if (groomOf[bride] != NONE) {
                    taken |= 1 << groomOf[bride];
                }
            }
        }

        private int mostWorth(int bride, int taken) {
            int most = worths[(bride + 1 << SIDE) + taken];
            for (int groom = 0; groom < groomCount; groom++) {
                if (may[bride * SIDE + groom] && (taken >> groom & 1) == 0) {
                    most = Math.max(most, worthWith(bride, groom, taken));
                }
            }
            return most;
        }

        private int leastChoice(int bride, int taken) {
            for (int groom = 0; groom < groomCount; groom++) {
                if (may[bride * SIDE + groom] && (taken >> groom & 1) == 0
                        && worthWith(bride, groom, taken) == worths[(bride << SIDE) + taken]) {
                    return groom;
                }
            }
            return NONE;
        }

        private int worthWith(int bride, int groom, int taken) {
            return coupleWorths[bride * SIDE + groom] + worths[(bride + 1 << SIDE) + (taken | 1 << groom)];
        }

        int weddings() {
            int sum = 0;
            for (int bride = 0; bride < brideCount; bride++) {
                sum += groomOf[bride] == NONE ? 0 : 1;
            }
            return sum;
        }

        int feudsEnded() {
            int sum = 0;
            for (int bride = 0; bride < brideCount; bride++) {
                if (groomOf[bride] != NONE && feuds[bride * SIDE + groomOf[bride]]) {
                    sum++;
                }
            }
            return sum;
        }

        int giftsTogether() {
            int sum = 0;
            for (int bride = 0; bride < brideCount; bride++) {
                if (groomOf[bride] != NONE) {
                    sum += gifts[bride * SIDE + groomOf[bride]];
                }
            }
            return sum;
        }

        int partnerOf(int person) {
            for (int bride = 0; bride < brideCount; bride++) {
                if (groomOf[bride] != NONE) {
                    int groom = grooms[groomOf[bride]];
                    if (brides[bride] == person) {
                        return groom;
                    }
                    if (groom == person) {
                        return brides[bride];
                    }
                }
            }
            return NONE;
        }

        void settleStable() {
            Arrays.fill(groomOf, NONE);
            for (int place = 0; place < asked.length; place++) {
                asked[place] = false;
            }
            boolean going = true;
            // Every round but the last has a couple that had not asked before.
            for (int round = 0; round <= SIDE * SIDE && going; round++) {
                going = askAround();
            }
        }

        void askLikings() {
            for (int bride = 0; bride < brideCount; bride++) {
                for (int groom = 0; groom < groomCount; groom++) {
                    int place = bride * SIDE + groom;
                    if (may[place]) {
                        herLiking[place] = judge.likes(brides[bride], grooms[groom]);
                        hisLiking[place] = judge.likes(grooms[groom], brides[bride]);
                    }
                }
            }
        }

        private boolean askAround() {
            boolean going = false;
            for (int groom = 0; groom < groomCount; groom++) {
                int bride = isKept(groom) ? NONE : nextToAsk(groom);
                if (bride != NONE) {
                    going = true;
                    asked[bride * SIDE + groom] = true;
                    hearOut(bride, groom);
                }
            }
            return going;
        }

        private boolean isKept(int groom) {
            for (int bride = 0; bride < brideCount; bride++) {
                if (groomOf[bride] == groom) {
                    return true;
                }
            }
            return false;
        }

        private int nextToAsk(int groom) {
            int found = NONE;
            for (int bride = 0; bride < brideCount; bride++) {
                int place = bride * SIDE + groom;
                if (may[place] && !asked[place]
                        && (found == NONE || hisLiking[place] > hisLiking[found * SIDE + groom])) {
                    found = bride;
                }
            }
            return found;
        }

        private void hearOut(int bride, int groom) {
            int kept = groomOf[bride];
            if (kept == NONE) {
                groomOf[bride] = groom;
                return;
            }
            int more = herLiking[bride * SIDE + groom] - herLiking[bride * SIDE + kept];
            if (more > 0 || more == 0 && groom < kept) {
                groomOf[bride] = groom;
            }
        }
    }

    /** Rings of houses; places in tables are the giving house times HOUSES and the taking one. */
    private static final class Rings {
        private final Book book;
        private final Pairs pairs;
        private final int[] brideFrom = new int[HOUSES * HOUSES];
        private final int[] groomTo = new int[HOUSES * HOUSES];
        private final int[] giftOf = new int[HOUSES * HOUSES];
        private final int[] trial = new int[RING];
        final int[] row = new int[RING];
        int size;
        int gifts;

        Rings(Book book, Pairs pairs) {
            this.book = book;
            this.pairs = pairs;
        }

        void search() {
            Arrays.fill(brideFrom, NONE);
            for (int bride = 0; bride < pairs.brideCount; bride++) {
                for (int groom = 0; groom < pairs.groomCount; groom++) {
                    if (pairs.may[bride * SIDE + groom]) {
                        offer(pairs.brides[bride], pairs.grooms[groom], pairs.gifts[bride * SIDE + groom]);
                    }
                }
            }
            size = 0;
            gifts = 0;
            for (int house = 0; house < book.houses.count; house++) {
                trial[0] = house;
                extend(1, 0);
            }
        }

        private void offer(int bride, int groom, int gift) {
            int place = book.persons.house[bride] * HOUSES + book.persons.house[groom];
            if (brideFrom[place] == NONE || gift > giftOf[place]) {
                brideFrom[place] = bride;
                groomTo[place] = groom;
                giftOf[place] = gift;
            }
        }

        /** Goes through rings in the order of their rows, so that the first of equals stays. */
        private void extend(int length, int soFar) {
            int last = trial[length - 1];
            int closing = last * HOUSES + trial[0];
            if (length > 1 && brideFrom[closing] != NONE) {
                consider(length, soFar + giftOf[closing]);
            }
            if (length >= RING) {
                return;
            }
            for (int house = trial[0] + 1; house < book.houses.count; house++) {
                int place = last * HOUSES + house;
                if (brideFrom[place] != NONE && !isOnTrial(house, length)) {
                    trial[length] = house;
                    extend(length + 1, soFar + giftOf[place]);
                }
            }
        }

        private boolean isOnTrial(int house, int length) {
            for (int k = 0; k < length; k++) {
                if (trial[k] == house) {
                    return true;
                }
            }
            return false;
        }

        private void consider(int length, int sum) {
            if (size == 0 || sum > gifts || sum == gifts && length < size) {
                size = length;
                gifts = sum;
                copy(trial, row);
            }
        }

        int brideAt(int k) {
            return brideFrom[linkAt(k)];
        }

        int groomAt(int k) {
            return groomTo[linkAt(k)];
        }

        private int linkAt(int k) {
            int to = k + 1 < size ? k + 1 : 0;
            return row[k] * HOUSES + row[to];
        }
    }
}
