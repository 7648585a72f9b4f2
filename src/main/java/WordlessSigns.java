import java.util.Arrays;

/** Signs without words: how near drawings are, how lands read them, and what to draw. */
public final class WordlessSigns {
    public static final int NONE = -1;

    private static final int DRAWINGS = 12;
    private static final int THINGS = 12;
    private static final int LOOKS = 24;
    private static final int PARTS = 6;
    private static final int KINDS = 5;
    private static final int PLACES = 9;
    private static final int WAYS = 4;
    private static final int SUBSETS = 64;
    private static final int LANDS = 6;
    private static final int SITES = 6;
    private static final int GROUPS = 6;
    private static final int GRAMMARS = 4;
    private static final int STOCK = 10;
    private static final int SLOTS = 6;
    private static final int OFFERS = 4;
    private static final int ROW = 8;
    private static final int ORDERED = 6;
    private static final int ANSWERS = 60;
    private static final int LAST_DAY = 999;
    private static final int LEARNT = 500;
    private static final int MEMORY = 1000;
    private static final int BYTES = 300;
    private static final int CLAUSES = 10;
    private static final int FIRST_LOOK_ABOUT = 20;
    private static final int FARTHEST = 1000000;

    // How far apart two PLACES are: the greater of the ways in x and in y.
    private static final int[] PLACE_GAPS = {
        0, 1, 2, 1, 1, 2, 2, 2, 2,
        1, 0, 1, 1, 1, 1, 2, 2, 2,
        2, 1, 0, 2, 1, 1, 2, 2, 2,
        1, 1, 2, 0, 1, 2, 1, 1, 2,
        1, 1, 1, 1, 0, 1, 1, 1, 1,
        2, 1, 1, 2, 1, 0, 2, 1, 1,
        2, 2, 2, 1, 1, 2, 0, 1, 2,
        2, 2, 2, 1, 1, 1, 1, 0, 1,
        2, 2, 2, 2, 1, 1, 2, 1, 0
    };

    // The facts that a grammar's names stand for, in the order of the names in WORDS.
    private static final int FACTS = 12;
    private static final int FACT_PARTS = 5;
    private static final int FACT_COLOUR = 6;
    private static final int FACT_MEANS = 7;
    private static final int FACT_TOOK = 8;
    private static final int FACT_TURNED = 9;
    private static final int FACT_LAND = 10;
    private static final int FACT_SITE = 11;
    private static final String WORDS =
            "lines circles bars arrows fills parts colour means took turned land site not must harm or and ";

    private static final int T_END = 0;
    private static final int T_BAD = 1;
    private static final int T_NUMBER = 2;
    private static final int T_NAME = 3;
    private static final int T_NOT = 4;
    private static final int T_MUST = 5;
    private static final int T_HARM = 6;
    private static final int T_OR = 7;
    private static final int T_AND = 8;
    private static final int T_BELOW = 9;
    private static final int T_BELOW_OR_SAME = 10;
    private static final int T_ABOVE = 11;
    private static final int T_ABOVE_OR_SAME = 12;
    private static final int T_SAME = 13;
    private static final int T_UNLIKE = 14;
    private static final int T_PLUS = 15;
    private static final int T_MINUS = 16;
    private static final int T_TIMES = 17;
    private static final int T_OPEN = 18;
    private static final int T_SHUT = 19;
    private static final int T_SEMICOLON = 20;
    private static final int T_NEGATE = 21;

    private final Looks looks;
    private final World world;
    private final Lists lists;
    private final Looks keptLooks;
    private final World keptWorld;
    private final Lists keptLists;
    private final Grammar[] grammars;
    private final Parser parser;
    private final Nearness nearness;
    private final Reader reader;
    private final Changer changer;
    private final Chooser chooser;
    private final Hanger hanger;
    private final Minds minds;

    public WordlessSigns() {
        looks = new Looks();
        world = new World();
        lists = new Lists();
        keptLooks = new Looks();
        keptWorld = new World();
        keptLists = new Lists();
        int[] stack = new int[BYTES];
        grammars = new Grammar[GRAMMARS + 1];
        for (int i = 0; i <= GRAMMARS; i++) {
            grammars[i] = new Grammar(stack);
        }
        parser = new Parser();
        nearness = new Nearness(looks);
        reader = new Reader(looks, world, lists, nearness, grammars);
        changer = new Changer(looks, world, lists, nearness, reader);
        chooser = new Chooser(lists, nearness);
        hanger = new Hanger(world, lists, reader);
        minds = new Minds(looks, world, reader);
    }

    public int look(boolean thing) {
        if (thing) {
            if (looks.things >= THINGS) {
                return NONE;
            }
            looks.things++;
            return DRAWINGS + looks.things - 1;
        }
        if (looks.drawings >= DRAWINGS) {
            return NONE;
        }
        looks.drawings++;
        return looks.drawings - 1;
    }

    public int part(int look, int kind, int place, int way) {
        if (!looks.isTold(look) || !isPart(kind, place, way)) {
            return NONE;
        }
        int code = codeOf(kind, place, way);
        int size = looks.sizes[look];
        if (size >= PARTS || holds(looks.codes, look * PARTS, size, code)) {
            return NONE;
        }
        looks.codes[look * PARTS + size] = code;
        looks.sizes[look] = size + 1;
        nearness.forget(look);
        return size + 1;
    }

    public int clear(int look) {
        if (!looks.isTold(look)) {
            return NONE;
        }
        int size = looks.sizes[look];
        looks.sizes[look] = 0;
        nearness.forget(look);
        return size;
    }

    public boolean colour(int look, int colour) {
        if (!looks.isTold(look) || !within(colour, 0, 3)) {
            return false;
        }
        looks.colours[look] = colour;
        nearness.forget(look);
        return true;
    }

    public boolean means(int drawing, int thing, boolean not) {
        if (!looks.isDrawing(drawing) || thing != NONE && !looks.isThing(thing)) {
            return false;
        }
        looks.meanings[drawing] = thing == NONE ? NONE : thing - DRAWINGS;
        // The not is said of a THING: of none there is nothing to deny.
        looks.denials[drawing] = not && thing != NONE;
        return true;
    }

    public boolean weights(int move, int turn, int drop, int tint) {
        if (!within(move, 0, 99) || !within(turn, 0, 99) || !within(drop, 0, 99) || !within(tint, 0, 99)) {
            return false;
        }
        looks.move = move;
        looks.turn = turn;
        looks.drop = drop;
        looks.tint = tint;
        nearness.forgetAll();
        return true;
    }

    public int far(int one, int other) {
        if (!looks.isTold(one) || !looks.isTold(other)) {
            return NONE;
        }
        return nearness.between(one, other);
    }

    public boolean land(int land, int share, int known) {
        if (!isLand(land) || !within(share, 0, 99)) {
            return false;
        }
        world.shares[land] = share;
        // No set is refused: bits that speak of no told THING, above bit 11 too, just don't count.
        world.knowns[land] = known & looks.toldThings();
        return true;
    }

    public boolean lean(int site, int thing, int v) {
        if (!isSite(site) || !looks.isThing(thing) || !within(v, 0, 99)) {
            return false;
        }
        world.leans[site * THINGS + thing - DRAWINGS] = v;
        return true;
    }

    public boolean rules(int limit, int help, int teach, int fade) {
        if (!within(limit, 0, 999) || !within(help, 0, 99) || !within(teach, 1, 1000) || !within(fade, 0, 1000)) {
            return false;
        }
        world.limit = limit;
        world.help = help;
        world.lesson = teach;
        world.fade = fade;
        return true;
    }

    public int feed(int a, int b, int c, int d, int e) {
        if (parser.length + 20 > BYTES) {
            return NONE;
        }
        parser.append(a);
        parser.append(b);
        parser.append(c);
        parser.append(d);
        parser.append(e);
        return parser.length;
    }

    public int end(int n) {
        if (!within(n, 0, parser.length)) {
            return NONE;
        }
        parser.length = n;
        return n;
    }

    public int grammar() {
        if (lists.grammars >= GRAMMARS) {
            return NONE;
        }
        // Numbers below an image's count are never given anew, so the texts themselves need no image.
        if (!parser.parse(grammars[lists.grammars])) {
            return NONE;
        }
        lists.grammars++;
        return lists.grammars - 1;
    }

    public int fault(int what) {
        if (!parser.hasRead) {
            return NONE;
        }
        if (what == 0) {
            return parser.fault;
        }
        return what == 1 ? parser.place : NONE;
    }

    public boolean by(int grammar) {
        if (!within(grammar, NONE, lists.grammars - 1)) {
            return false;
        }
        lists.grammar = grammar;
        return true;
    }

    public int taken(int drawing, int land, int site) {
        if (!isReading(drawing, land, site)) {
            return NONE;
        }
        reader.score(drawing, site);
        return lookOf(reader.take(world.knowns[land]));
    }

    public int says(int drawing, int what) {
        if (!looks.isDrawing(drawing) || !within(what, 0, 1)) {
            return NONE;
        }
        reader.regard(drawing, 0);
        return (what == 0 ? reader.denied : reader.isOfGrammar()) ? 1 : 0;
    }

    public int right(int drawing, int land, int site) {
        if (!isReading(drawing, land, site)) {
            return NONE;
        }
        reader.meet(drawing, site);
        return reader.isRight(land, reader.take(world.knowns[land])) ? 1 : 0;
    }

    public int harm(int drawing, int land, int site) {
        if (!isReading(drawing, land, site)) {
            return NONE;
        }
        reader.meet(drawing, site);
        return reader.harmBy(land, reader.take(world.knowns[land]));
    }

    public int odds(int drawing, int site, int what) {
        if (!looks.isDrawing(drawing) || !isSite(site) || !within(what, 0, 2)) {
            return NONE;
        }
        if (what == 2) {
            return world.allShares();
        }
        reader.meet(drawing, site);
        return what == 0 ? reader.allHarm() : reader.rightShares();
    }

    public int stock(int kind, int place, int way) {
        if (!isPart(kind, place, way) || lists.stocked >= STOCK) {
            return NONE;
        }
        int code = codeOf(kind, place, way);
        if (holds(lists.stock, 0, lists.stocked, code)) {
            return NONE;
        }
        lists.stock[lists.stocked] = code;
        lists.stocked++;
        return lists.stocked;
    }

    public int made(int drawing, int site, int what) {
        if (!looks.isDrawing(drawing) || !isSite(site) || !within(what, 0, 2)) {
            return NONE;
        }
        changer.seekMade(drawing, site);
        if (changer.madeSet == NONE) {
            return NONE;
        }
        if (what == 2) {
            return changer.drawMade(drawing);
        }
        return what == 0 ? changer.madeSet : changer.madeHarm;
    }

    public int least(int set, int what) {
        if (!looks.isSet(set) || !within(what, 0, 2) || Integer.bitCount(set) < 2) {
            return NONE;
        }
        chooser.seekNearest(set);
        if (what == 0) {
            return chooser.nearest;
        }
        return what == 1 ? chooser.nearOne : chooser.nearOther;
    }

    public int candidate(int slot, int drawing) {
        if (!within(slot, 0, SLOTS - 1) || !looks.isDrawing(drawing)) {
            return NONE;
        }
        int count = lists.offered[slot];
        if (count >= OFFERS || holds(lists.offers, slot * OFFERS, count, drawing)) {
            return NONE;
        }
        lists.offers[slot * OFFERS + count] = drawing;
        lists.offered[slot] = count + 1;
        return count + 1;
    }

    public int choice(int slot) {
        if (!within(slot, NONE, SLOTS - 1) || lists.toldSlots() < 2) {
            return NONE;
        }
        if (slot != NONE && lists.offered[slot] == 0) {
            return NONE;
        }
        chooser.seekChoice();
        return slot == NONE ? chooser.bestLeast : chooser.best[slot];
    }

    public int bars(int d) {
        return within(d, 1, 999) ? chooser.barredSlot(d) : NONE;
    }

    public boolean group(int thing, int group) {
        if (!looks.isThing(thing) || !within(group, 0, GROUPS - 1)) {
            return false;
        }
        world.groups[thing - DRAWINGS] = group;
        return true;
    }

    public int hang(int drawing) {
        if (!looks.isDrawing(drawing) || lists.hung >= ROW) {
            return NONE;
        }
        lists.row[lists.hung] = drawing;
        lists.hung++;
        return lists.hung;
    }

    public int unhang() {
        int hung = lists.hung;
        lists.hung = 0;
        return hung;
    }

    public int among(int i, int land, int site) {
        if (!within(i, 0, lists.hung - 1) || !isLand(land) || !isSite(site)) {
            return NONE;
        }
        hanger.prepare(site);
        return lookOf(hanger.takenAmong(i, land));
    }

    public int order(int site, int i) {
        if (!isSite(site) || !within(lists.hung, 1, ORDERED) || !within(i, NONE, lists.hung - 1)) {
            return NONE;
        }
        hanger.prepare(site);
        hanger.seekOrder();
        return i == NONE ? hanger.bestShares : lists.row[hanger.best[i]];
    }

    public int worn(int drawing, int site, int n, int what) {
        if (!looks.isDrawing(drawing) || !isSite(site) || !within(what, 0, 1)) {
            return NONE;
        }
        if (!within(n, 0, looks.sizes[drawing])) {
            return NONE;
        }
        changer.seekWorn(drawing, site, n);
        return what == 0 ? changer.wornShares : changer.wornSet;
    }

    public int teach(int drawing, int land) {
        if (!looks.isDrawing(drawing) || !isLand(land)) {
            return NONE;
        }
        int at = drawing * LANDS + land;
        world.memories[at] = world.afterTelling(world.memories[at]);
        return world.memories[at];
    }

    public int weeks(int n) {
        if (!within(n, 1, 50)) {
            return NONE;
        }
        for (int i = 0; i < world.memories.length; i++) {
            world.memories[i] = world.afterWeeks(world.memories[i], n);
        }
        return n;
    }

    public int tellings(int drawing, int land, int n) {
        if (!looks.isDrawing(drawing) || !isLand(land) || !within(n, 0, 50)) {
            return NONE;
        }
        int memory = world.memories[drawing * LANDS + land];
        for (int told = 0; told <= 100; told++) {
            if (world.afterWeeks(memory, n) >= LEARNT) {
                return told;
            }
            memory = world.afterTelling(memory);
        }
        return NONE;
    }

    public int anybody(int drawing, int site, int k, int what) {
        if (!looks.isDrawing(drawing) || !isSite(site) || !within(k, 0, looks.things) || !within(what, 0, 1)) {
            return NONE;
        }
        reader.seekWorst(drawing, site, k);
        return what == 0 ? reader.worstHarm : reader.worstSet;
    }

    public int best(int set, int site, int k) {
        if (!looks.isSet(set) || !isSite(site) || !within(k, 0, looks.things)) {
            return NONE;
        }
        int best = NONE;
        int least = 0;
        for (int drawing = 0; drawing < looks.drawings; drawing++) {
            if ((set >> drawing & 1) == 0) {
                continue;
            }
            reader.seekWorst(drawing, site, k);
            if (best == NONE || reader.worstHarm < least) {
                best = drawing;
                least = reader.worstHarm;
            }
        }
        return best;
    }

    public int days(int n) {
        if (!within(n, 1, 99) || world.clock + n > LAST_DAY) {
            return NONE;
        }
        world.clock += n;
        return world.clock;
    }

    public int answer(int land, int site, int drawing, int thing) {
        if (!isLand(land) || !isSite(site) || !looks.isDrawing(drawing)) {
            return NONE;
        }
        if (thing != NONE && !looks.isThing(thing) || world.answered >= ANSWERS) {
            return NONE;
        }
        int at = world.answered;
        world.answerLands[at] = land;
        world.answerSites[at] = site;
        world.answerDrawings[at] = drawing;
        world.answerThings[at] = thing == NONE ? NONE : thing - DRAWINGS;
        world.answerDays[at] = world.clock;
        world.answered++;
        return world.answered;
    }

    public int minds(int land, int known, int i) {
        if (!isLand(land) || !within(known, 0, LAST_DAY)) {
            return NONE;
        }
        minds.gather(land, known);
        if (i == NONE) {
            return minds.count();
        }
        return within(i, 0, minds.count() - 1) ? minds.member(i) : NONE;
    }

    public int knows(int land, int known, int thing) {
        if (!isLand(land) || !within(known, 0, LAST_DAY) || !looks.isThing(thing)) {
            return NONE;
        }
        minds.gather(land, known);
        return minds.sureness(thing - DRAWINGS);
    }

    public int parts(int land, int site, int what) {
        if (!isLand(land) || !isSite(site) || !within(what, 0, 1)) {
            return NONE;
        }
        minds.gather(land, world.clock);
        minds.seekParting(site);
        if (minds.parting == NONE) {
            return NONE;
        }
        return what == 0 ? minds.parting : minds.unlike;
    }

    public int mended(int one, int other, int d, int what) {
        if (!looks.isDrawing(one) || !looks.isDrawing(other) || one == other) {
            return NONE;
        }
        if (!within(d, 1, 999) || !within(what, 0, 3)) {
            return NONE;
        }
        return changer.seekMended(one, other, d) ? changer.mending[what] : NONE;
    }

    public int image() {
        keptLooks.copyFrom(looks);
        keptWorld.copyFrom(world);
        keptLists.copyFrom(lists);
        return world.clock;
    }

    public int back() {
        looks.copyFrom(keptLooks);
        world.copyFrom(keptWorld);
        lists.copyFrom(keptLists);
        nearness.forgetAll();
        return world.clock;
    }

    public int about(int what) {
        switch (what) {
            case 0:
                return world.clock;
            case 1:
                return looks.drawings;
            case 2:
                return looks.things;
            case 3:
                return lists.grammars;
            case 4:
                return lists.grammar;
            case 5:
                return lists.stocked;
            case 6:
                return lists.hung;
            case 7:
                return world.answered;
            case 8:
                return parser.length;
            default:
                return partsAbout(what);
        }
    }

    private int partsAbout(int what) {
        if (!within(what, FIRST_LOOK_ABOUT, FIRST_LOOK_ABOUT + LOOKS - 1)) {
            return NONE;
        }
        int look = what - FIRST_LOOK_ABOUT;
        return looks.isTold(look) ? looks.sizes[look] : NONE;
    }

    private boolean isReading(int drawing, int land, int site) {
        return looks.isDrawing(drawing) && isLand(land) && isSite(site);
    }

    private static boolean within(int value, int low, int high) {
        return value >= low && value <= high;
    }

    private static boolean isLand(int land) {
        return within(land, 0, LANDS - 1);
    }

    private static boolean isSite(int site) {
        return within(site, 0, SITES - 1);
    }

    private static boolean isPart(int kind, int place, int way) {
        return within(kind, 0, KINDS - 1) && within(place, 0, PLACES - 1) && within(way, 0, WAYS - 1);
    }

    private static int lookOf(int thing) {
        return thing == NONE ? NONE : DRAWINGS + thing;
    }

    private static int codeOf(int kind, int place, int way) {
        return (kind * PLACES + place) * WAYS + way;
    }

    private static int kindOf(int code) {
        return code / (PLACES * WAYS);
    }

    private static int placeOf(int code) {
        return code / WAYS % PLACES;
    }

    private static int wayOf(int code) {
        return code % WAYS;
    }

    private static boolean holds(int[] list, int from, int count, int value) {
        for (int i = 0; i < count; i++) {
            if (list[from + i] == value) {
                return true;
            }
        }
        return false;
    }

    private static void copyAll(int[] from, int[] to) {
        System.arraycopy(from, 0, to, 0, to.length);
    }

    /** LOOKS, what they mean, and the weights of FAR. */
    private static final class Looks {
        int drawings;
        int things;
        int move = 2;
        int turn = 1;
        int drop = 5;
        int tint = 3;
        final int[] codes = new int[LOOKS * PARTS];
        final int[] sizes = new int[LOOKS];
        final int[] colours = new int[LOOKS];
        final int[] meanings = new int[DRAWINGS];
        final boolean[] denials = new boolean[DRAWINGS];

        Looks() {
            Arrays.fill(meanings, NONE);
        }

        boolean isDrawing(int look) {
            return within(look, 0, drawings - 1);
        }

        boolean isThing(int look) {
            return within(look, DRAWINGS, DRAWINGS + things - 1);
        }

        boolean isTold(int look) {
            return isDrawing(look) || isThing(look);
        }

        boolean isSet(int set) {
            return within(set, 0, (1 << drawings) - 1);
        }

        int toldThings() {
            return (1 << things) - 1;
        }

        void copyFrom(Looks other) {
            drawings = other.drawings;
            things = other.things;
            move = other.move;
            turn = other.turn;
            drop = other.drop;
            tint = other.tint;
            copyAll(other.codes, codes);
            copyAll(other.sizes, sizes);
            copyAll(other.colours, colours);
            copyAll(other.meanings, meanings);
            System.arraycopy(other.denials, 0, denials, 0, DRAWINGS);
        }
    }

    /** LANDS, SITES, the rules of reading and learning, the clock and the ANSWERS. THINGS are 0 .. 11 here. */
    private static final class World {
        int limit = 12;
        int help = 4;
        int lesson = 400;
        int fade = 100;
        int clock;
        int answered;
        final int[] shares = new int[LANDS];
        final int[] knowns = new int[LANDS];
        final int[] leans = new int[SITES * THINGS];
        final int[] groups = new int[THINGS];
        final int[] memories = new int[DRAWINGS * LANDS];
        final int[] answerLands = new int[ANSWERS];
        final int[] answerSites = new int[ANSWERS];
        final int[] answerDrawings = new int[ANSWERS];
        final int[] answerThings = new int[ANSWERS];
        final int[] answerDays = new int[ANSWERS];

        int allShares() {
            int all = 0;
            for (int land = 0; land < LANDS; land++) {
                all += shares[land];
            }
            return all;
        }

        int afterTelling(int memory) {
            return Math.min(MEMORY, memory + lesson);
        }

        int afterWeeks(int memory, int weeks) {
            int left = memory;
            for (int week = 0; week < weeks; week++) {
                left -= left * fade / MEMORY;
            }
            return left;
        }

        int groupOf(int thing) {
            return thing == NONE ? 0 : groups[thing];
        }

        /** Of the known things that of the least score, HELP less for the helped ones; NONE above LIMIT. */
        int pick(int[] scores, int from, int known, int helped) {
            int took = NONE;
            int least = 0;
            for (int thing = 0; thing < THINGS; thing++) {
                if ((known >> thing & 1) == 0) {
                    continue;
                }
                int score = scores[from + thing] - ((helped >> thing & 1) == 0 ? 0 : help);
                if (took == NONE || score < least) {
                    took = thing;
                    least = score;
                }
            }
            return least > limit ? NONE : took;
        }

        void copyFrom(World other) {
            limit = other.limit;
            help = other.help;
            lesson = other.lesson;
            fade = other.fade;
            clock = other.clock;
            answered = other.answered;
            copyAll(other.shares, shares);
            copyAll(other.knowns, knowns);
            copyAll(other.leans, leans);
            copyAll(other.groups, groups);
            copyAll(other.memories, memories);
            copyAll(other.answerLands, answerLands);
            copyAll(other.answerSites, answerSites);
            copyAll(other.answerDrawings, answerDrawings);
            copyAll(other.answerThings, answerThings);
            copyAll(other.answerDays, answerDays);
        }
    }

    /** The list of told PARTS, the CANDIDATES, the row, and which GRAMMARS there are. */
    private static final class Lists {
        int grammars;
        int grammar = NONE;
        int stocked;
        int hung;
        final int[] stock = new int[STOCK];
        final int[] offers = new int[SLOTS * OFFERS];
        final int[] offered = new int[SLOTS];
        final int[] row = new int[ROW];

        int toldSlots() {
            int told = 0;
            for (int slot = 0; slot < SLOTS; slot++) {
                told += offered[slot] > 0 ? 1 : 0;
            }
            return told;
        }

        void copyFrom(Lists other) {
            grammars = other.grammars;
            grammar = other.grammar;
            stocked = other.stocked;
            hung = other.hung;
            copyAll(other.stock, stock);
            copyAll(other.offers, offers);
            copyAll(other.offered, offered);
            copyAll(other.row, row);
        }
    }

    /**
     * A GRAMMAR as clauses of code that a stack runs: numbers as they are, names from FIRST_NAME on,
     * operators from FIRST_OPERATOR on. Without clauses it is the one that holds when there is none.
     */
    private static final class Grammar {
        private static final int FIRST_NAME = 10000;
        private static final int FIRST_OPERATOR = 20000;
        private static final int GREATEST = 1000000;

        private final int[] codes = new int[BYTES];
        private final int[] kinds = new int[CLAUSES];
        private final int[] starts = new int[CLAUSES + 1];
        private final int[] stack;
        private int clauses;
        private int size;
        private int harmClause = NONE;

        Grammar(int[] stack) {
            this.stack = stack;
        }

        void empty() {
            clauses = 0;
            size = 0;
            harmClause = NONE;
        }

        boolean isFull() {
            return clauses >= CLAUSES;
        }

        void openClause(int kind) {
            if (clauses < CLAUSES) {
                kinds[clauses] = kind;
                harmClause = kind == T_HARM ? clauses : harmClause;
            }
        }

        void closeClause() {
            if (clauses < CLAUSES) {
                clauses++;
                starts[clauses] = size;
            }
        }

        void emit(int code) {
            if (size < BYTES) {
                codes[size] = code;
                size++;
            }
        }

        boolean denies(int[] facts) {
            for (int i = 0; i < clauses; i++) {
                if (kinds[i] == T_NOT && run(i, facts) != 0) {
                    return true;
                }
            }
            return false;
        }

        boolean admits(int[] facts) {
            for (int i = 0; i < clauses; i++) {
                if (kinds[i] == T_MUST && run(i, facts) == 0) {
                    return false;
                }
            }
            return true;
        }

        boolean hasHarm() {
            return harmClause != NONE;
        }

        int run(int clause, int[] facts) {
            int top = 0;
            for (int i = starts[clause]; i < starts[clause + 1]; i++) {
                int code = codes[i];
                if (code < FIRST_OPERATOR) {
                    stack[top] = code < FIRST_NAME ? code : facts[code - FIRST_NAME];
                    top++;
                } else if (code == FIRST_OPERATOR + T_NEGATE && top > 0) {
                    stack[top - 1] = -stack[top - 1];
                } else if (top > 1) {
                    top--;
                    long joined = join(code - FIRST_OPERATOR, stack[top - 1], stack[top]);
                    stack[top - 1] = (int) Math.max(-GREATEST, Math.min(GREATEST, joined));
                }
            }
            return stack[0];
        }

        private static long join(int operator, long left, long right) {
            switch (operator) {
                case T_OR:
                    return left | right;
                case T_AND:
                    return left & right;
                case T_BELOW:
                    return left < right ? 1 : 0;
                case T_BELOW_OR_SAME:
                    return left <= right ? 1 : 0;
                case T_ABOVE:
                    return left > right ? 1 : 0;
                case T_ABOVE_OR_SAME:
                    return left >= right ? 1 : 0;
                case T_SAME:
                    return left == right ? 1 : 0;
                case T_UNLIKE:
                    return left != right ? 1 : 0;
                case T_PLUS:
                    return left + right;
                case T_MINUS:
                    return left - right;
                default:
                    return left * right;
            }
        }
    }

    /** The tape, and its reading into a GRAMMAR: TOKEN by TOKEN, operators waiting on a stack till both sides stand. */
    private static final class Parser {
        private static final int AT_CLAUSE = 0;
        private static final int AT_ASK = 1;
        private static final int AT_ONE = 2;
        private static final int AFTER_ONE = 3;
        private static final int AFTER_ASK = 4;

        // Which SUM a ONE stands in: left of a comparison, right of it, or that of harm.
        private static final int LEFT = 0;
        private static final int RIGHT = 1;
        private static final int ALONE = 2;

        private static final int DEEPEST = 8;
        private static final int GREATEST_NUMBER = 9999;
        private static final int FIRST_KEYWORD = FACTS;

        private static final int CANNOT_STAND = 1;
        private static final int TOO_GREAT = 2;
        private static final int TOO_DEEP = 3;
        private static final int HARM_AGAIN = 4;
        private static final int ONLY_IN_HARM = 5;
        private static final int TOO_MANY = 6;

        private final byte[] bytes = new byte[BYTES];
        private final int[] waiting = new int[BYTES];
        int length;
        boolean hasRead;
        int fault;
        int place = NONE;
        private Grammar target;
        private int state;
        private int side;
        private int waits;
        private int brackets;
        private int minuses;
        private int token;
        private int value;
        private int from;
        private int to;

        void append(int word) {
            for (int shift = 24; shift >= 0; shift -= 8) {
                if (length < BYTES) {
                    bytes[length] = (byte) (word >> shift);
                    length++;
                }
            }
        }

        private void begin(Grammar grammar) {
            target = grammar;
            target.empty();
            hasRead = true;
            fault = 0;
            place = NONE;
            state = AT_CLAUSE;
            waits = 0;
            brackets = 0;
            minuses = 0;
            to = 0;
            token = T_BAD;
        }

        /** Whether the tape is without a FAULT; it is empty then. */
        boolean parse(Grammar grammar) {
            begin(grammar);
            for (int i = 0; i <= BYTES && token != T_END && fault == 0; i++) {
                scan();
                switch (state) {
                    case AT_CLAUSE:
                        fault = startClause();
                        break;
                    case AT_ASK:
                        fault = startAsk();
                        break;
                    case AT_ONE:
                        fault = startOne();
                        break;
                    case AFTER_ONE:
                        fault = followOne();
                        break;
                    default:
                        fault = followAsk();
                        break;
                }
            }
            if (fault != 0) {
                place = from;
            }
            length = 0;
            return fault == 0;
        }

        private void scan() {
            from = to;
            for (int i = to; i < length && (bytes[i] == ' ' || bytes[i] == '\n'); i++) {
                from = i + 1;
            }
            to = from;
            if (from >= length) {
                token = T_END;
            } else if (isDigit(bytes[from])) {
                scanNumber();
            } else if (isLetter(bytes[from])) {
                scanWord();
            } else {
                scanSign();
            }
        }

        private static boolean isDigit(byte b) {
            return b >= '0' && b <= '9';
        }

        private static boolean isLetter(byte b) {
            return b >= 'a' && b <= 'z' || b >= 'A' && b <= 'Z';
        }

        private void scanNumber() {
            token = T_NUMBER;
            value = 0;
            for (int i = from; i < length && isDigit(bytes[i]); i++) {
                value = Math.min(GREATEST_NUMBER + 1, value * 10 + bytes[i] - '0');
                to = i + 1;
            }
        }

        private void scanWord() {
            for (int i = from; i < length && isLetter(bytes[i]); i++) {
                to = i + 1;
            }
            value = numberOfWord();
            if (value == NONE) {
                token = T_BAD;
            } else {
                token = value < FIRST_KEYWORD ? T_NAME : T_NOT + value - FIRST_KEYWORD;
            }
        }

        private int numberOfWord() {
            int word = 0;
            int at = from;
            boolean same = true;
            for (int i = 0; i < WORDS.length(); i++) {
                char sign = WORDS.charAt(i);
                if (sign == ' ') {
                    if (same && at == to) {
                        return word;
                    }
                    word++;
                    at = from;
                    same = true;
                } else if (same && at < to && bytes[at] == sign) {
                    at++;
                } else {
                    same = false;
                }
            }
            return NONE;
        }

        private void scanSign() {
            to = from + 1;
            boolean sameNext = to < length && bytes[to] == '=';
            token = tokenOfSign(bytes[from]);
            if (sameNext && (token == T_BELOW || token == T_ABOVE)) {
                token = token == T_BELOW ? T_BELOW_OR_SAME : T_ABOVE_OR_SAME;
                to++;
            }
        }

        private static int tokenOfSign(byte sign) {
            switch (sign) {
                case '<':
                    return T_BELOW;
                case '>':
                    return T_ABOVE;
                case '=':
                    return T_SAME;
                case '#':
                    return T_UNLIKE;
                case '+':
                    return T_PLUS;
                case '-':
                    return T_MINUS;
                case '*':
                    return T_TIMES;
                case '(':
                    return T_OPEN;
                case ')':
                    return T_SHUT;
                case ';':
                    return T_SEMICOLON;
                default:
                    return T_BAD;
            }
        }

        // Each of these answers the FAULT of the TOKEN where it stands, or 0.

        private int startClause() {
            if (token == T_END) {
                return 0;
            }
            if (token != T_NOT && token != T_MUST && token != T_HARM) {
                return CANNOT_STAND;
            }
            if (token == T_HARM && target.hasHarm()) {
                return HARM_AGAIN;
            }
            if (target.isFull()) {
                return TOO_MANY;
            }
            target.openClause(token);
            state = AT_ASK;
            if (token == T_HARM) {
                side = ALONE;
                state = AT_ONE;
            }
            return 0;
        }

        private int startAsk() {
            if (token != T_OPEN) {
                side = LEFT;
                return startOne();
            }
            if (brackets + minuses >= DEEPEST) {
                return TOO_DEEP;
            }
            brackets++;
            await(T_OPEN);
            return 0;
        }

        private int startOne() {
            if (token == T_NUMBER) {
                if (value > GREATEST_NUMBER) {
                    return TOO_GREAT;
                }
                target.emit(value);
            } else if (token == T_NAME) {
                if (value >= FACT_TOOK && side != ALONE) {
                    return ONLY_IN_HARM;
                }
                target.emit(Grammar.FIRST_NAME + value);
            } else {
                return startMinus();
            }
            for (; minuses > 0; minuses--) {
                target.emit(Grammar.FIRST_OPERATOR + T_NEGATE);
            }
            state = AFTER_ONE;
            return 0;
        }

        private int startMinus() {
            if (token != T_MINUS) {
                return CANNOT_STAND;
            }
            if (brackets + minuses >= DEEPEST) {
                return TOO_DEEP;
            }
            minuses++;
            state = AT_ONE;
            return 0;
        }

        private int followOne() {
            if (token >= T_PLUS && token <= T_TIMES) {
                awaitRightSide();
                state = AT_ONE;
                return 0;
            }
            if (side == LEFT) {
                if (token < T_BELOW || token > T_UNLIKE) {
                    return CANNOT_STAND;
                }
                awaitRightSide();
                side = RIGHT;
                state = AT_ONE;
                return 0;
            }
            return side == RIGHT || token == T_SEMICOLON ? followAsk() : CANNOT_STAND;
        }

        private int followAsk() {
            if (token == T_OR || token == T_AND) {
                awaitRightSide();
                state = AT_ASK;
                return 0;
            }
            if (token == T_SHUT && brackets > 0) {
                release(1);
                waits--;
                brackets--;
                state = AFTER_ASK;
                return 0;
            }
            if (token == T_SEMICOLON && brackets == 0) {
                release(1);
                target.closeClause();
                state = AT_CLAUSE;
                return 0;
            }
            return CANNOT_STAND;
        }

        private void awaitRightSide() {
            release(rank(token));
            await(token);
        }

        private void await(int operator) {
            if (waits < BYTES) {
                waiting[waits] = operator;
                waits++;
            }
        }

        /** The waiting operators that bind at least so tightly have both sides now; a bracket holds back the rest. */
        private void release(int least) {
            for (; waits > 0 && rank(waiting[waits - 1]) >= least; waits--) {
                target.emit(Grammar.FIRST_OPERATOR + waiting[waits - 1]);
            }
        }

        private static int rank(int operator) {
            if (operator == T_OPEN) {
                return 0;
            }
            if (operator == T_OR) {
                return 1;
            }
            if (operator == T_AND) {
                return 2;
            }
            if (operator <= T_UNLIKE) {
                return 3;
            }
            return operator == T_TIMES ? 5 : 4;
        }
    }

    /**
     * FAR. All PARTS dropped cost DROP each; a pair gains two DROPs less its own cost. Rows of gains hold, for
     * each set of the other LOOK's PARTS, the most that pairs within this set gain.
     */
    private static final class Nearness {
        private final Looks looks;
        private final int[] fars = new int[LOOKS * LOOKS];
        private final int[] row = new int[SUBSETS];
        private final int[] bits = new int[PARTS];
        private final int[] gains = new int[PARTS];

        Nearness(Looks looks) {
            this.looks = looks;
            Arrays.fill(fars, NONE);
        }

        void forgetAll() {
            Arrays.fill(fars, NONE);
        }

        void forget(int look) {
            for (int other = 0; other < LOOKS; other++) {
                fars[look * LOOKS + other] = NONE;
                fars[other * LOOKS + look] = NONE;
            }
        }

        int between(int one, int other) {
            int at = one * LOOKS + other;
            if (fars[at] == NONE) {
                fars[at] = measure(looks.codes, one * PARTS, looks.sizes[one], looks.colours[one], other);
                fars[other * LOOKS + one] = fars[at];
            }
            return fars[at];
        }

        /** FAR from PARTS that need not be those of a told LOOK. */
        int measure(int[] codes, int from, int size, int colour, int look) {
            Arrays.fill(row, 0);
            for (int i = 0; i < size; i++) {
                widen(codes[from + i], look, row, 0, 0);
            }
            return total(size, colour, look, row[lastSubset(look)]);
        }

        int total(int size, int colour, int look, int gain) {
            int dropped = looks.drop * (size + looks.sizes[look]);
            return dropped - gain + (colour == looks.colours[look] ? 0 : looks.tint);
        }

        int lastSubset(int look) {
            return (1 << looks.sizes[look]) - 1;
        }

        /** The row at 'to' is that at 'from' with one PART more to pair; falling sets let both be one row. */
        void widen(int code, int look, int[] rows, int from, int to) {
            int pairs = findGains(code, look);
            for (int set = lastSubset(look); set >= 0; set--) {
                int most = rows[from + set];
                for (int i = 0; i < pairs; i++) {
                    if ((set & bits[i]) != 0) {
                        most = Math.max(most, rows[from + (set ^ bits[i])] + gains[i]);
                    }
                }
                rows[to + set] = most;
            }
        }

        /**
         * Pairs that gain nothing are left out: they are never better than dropping both. The codes are taken apart
         * in place, for calls that lead here are as many as may stand open.
         */
        private int findGains(int code, int look) {
            int found = 0;
            for (int i = 0; i < looks.sizes[look]; i++) {
                int other = looks.codes[look * PARTS + i];
                if (other / (PLACES * WAYS) != code / (PLACES * WAYS)) {
                    continue;
                }
                int apart = PLACE_GAPS[code / WAYS % PLACES * PLACES + other / WAYS % PLACES];
                int cost = looks.move * apart + (code % WAYS == other % WAYS ? 0 : looks.turn);
                if (cost < 2 * looks.drop) {
                    bits[found] = 1 << i;
                    gains[found] = 2 * looks.drop - cost;
                    found++;
                }
            }
            return found;
        }
    }

    /** One DRAWING, as it is or changed, before the readers of a SITE. A score is FAR less LEAN. */
    private static final class Reader {
        private final Looks looks;
        private final World world;
        private final Lists lists;
        private final Nearness nearness;
        private final Grammar[] grammars;
        private final int[] harms = new int[THINGS + 1];
        final int[] scores = new int[THINGS];
        final int[] facts = new int[FACTS];
        private int drawing;
        private int site;
        boolean denied;
        int worstHarm;
        int worstSet;

        Reader(Looks looks, World world, Lists lists, Nearness nearness, Grammar[] grammars) {
            this.looks = looks;
            this.world = world;
            this.lists = lists;
            this.nearness = nearness;
            this.grammars = grammars;
        }

        private Grammar theGrammar() {
            return grammars[lists.grammar == NONE ? GRAMMARS : lists.grammar];
        }

        /** What matters to what it is TAKEN for alone. */
        void score(int drawing, int site) {
            this.drawing = drawing;
            this.site = site;
            for (int thing = 0; thing < looks.things; thing++) {
                setFar(thing, nearness.between(drawing, DRAWINGS + thing));
            }
        }

        /** What matters to THE GRAMMAR. */
        void regard(int drawing, int site) {
            countFacts(drawing, site, looks.codes, drawing * PARTS, looks.sizes[drawing]);
            consult();
        }

        void meet(int drawing, int site) {
            score(drawing, site);
            regard(drawing, site);
        }

        void meetChanged(int drawing, int site, int[] codes, int size) {
            countFacts(drawing, site, codes, 0, size);
            for (int thing = 0; thing < looks.things; thing++) {
                setFar(thing, nearness.measure(codes, 0, size, looks.colours[drawing], DRAWINGS + thing));
            }
            consult();
        }

        void setFar(int thing, int far) {
            scores[thing] = far - world.leans[site * THINGS + thing];
        }

        void countFacts(int drawing, int site, int[] codes, int from, int size) {
            this.drawing = drawing;
            this.site = site;
            Arrays.fill(facts, 0);
            for (int i = 0; i < size; i++) {
                facts[kindOf(codes[from + i])]++;
            }
            facts[FACT_PARTS] = size;
            facts[FACT_COLOUR] = looks.colours[drawing];
            facts[FACT_MEANS] = looks.meanings[drawing];
        }

        void consult() {
            denied = theGrammar().denies(facts);
        }

        boolean isOfGrammar() {
            return theGrammar().admits(facts);
        }

        int take(int known) {
            return world.pick(scores, 0, known, 0);
        }

        boolean isLearnt(int land) {
            return land != NONE && world.memories[drawing * LANDS + land] >= LEARNT;
        }

        /** What it must be TAKEN for to be RIGHT; NONE if by nothing, for the not is wrong or it MEANS none. */
        int goal() {
            return denied == looks.denials[drawing] ? looks.meanings[drawing] : NONE;
        }

        boolean isRight(int land, int took) {
            return isLearnt(land) || took != NONE && took == goal();
        }

        int harmBy(int land, int took) {
            if (isRight(land, took)) {
                return 0;
            }
            facts[FACT_TOOK] = took;
            facts[FACT_TURNED] = denied == looks.denials[drawing] ? 0 : 1;
            facts[FACT_LAND] = land;
            facts[FACT_SITE] = site;
            Grammar grammar = theGrammar();
            return grammar.hasHarm() ? Math.max(0, grammar.run(grammar.harmClause, facts)) : 1;
        }

        int allHarm() {
            int all = 0;
            for (int land = 0; land < LANDS; land++) {
                if (world.shares[land] > 0) {
                    all += world.shares[land] * harmBy(land, take(world.knowns[land]));
                }
            }
            return all;
        }

        int rightShares() {
            int all = 0;
            for (int land = 0; land < LANDS; land++) {
                if (world.shares[land] > 0 && isRight(land, take(world.knowns[land]))) {
                    all += world.shares[land];
                }
            }
            return all;
        }

        void seekWorst(int drawing, int site, int k) {
            score(drawing, site);
            regard(drawing, site);
            // HARM depends on what it is TAKEN for alone, so each is worked out once, nothing at 0.
            Arrays.fill(harms, NONE);
            worstHarm = NONE;
            for (int set = 0; set <= looks.toldThings(); set++) {
                if (Integer.bitCount(set) != k) {
                    continue;
                }
                int took = take(set);
                if (harms[took + 1] == NONE) {
                    harms[took + 1] = harmBy(NONE, took);
                }
                if (harms[took + 1] > worstHarm) {
                    worstHarm = harms[took + 1];
                    worstSet = set;
                }
            }
        }
    }

    /** DRAWINGS with other PARTS: MADE, WORN, MENDED. */
    private static final class Changer {
        private static final int TO_PLACE = 0;
        private static final int TO_WAY = 1;
        private static final int GOES = 2;

        private final Looks looks;
        private final World world;
        private final Lists lists;
        private final Nearness nearness;
        private final Reader reader;
        private final int[] codes = new int[PARTS];
        // Rows of gains for each THING, one layer for each count of PARTS chosen so far; by none nothing is gained, so
        // the first layer stays 0.
        private final int[] rows = new int[(PARTS + 1) * THINGS * SUBSETS];
        private int drawing;
        private int useful;
        private int madeCount;
        int madeSet;
        int madeHarm;
        int wornShares;
        int wornSet;
        final int[] mending = new int[4];

        Changer(Looks looks, World world, Lists lists, Nearness nearness, Reader reader) {
            this.looks = looks;
            this.world = world;
            this.lists = lists;
            this.nearness = nearness;
            this.reader = reader;
        }

        void seekMade(int drawing, int site) {
            this.drawing = drawing;
            reader.countFacts(drawing, site, codes, 0, 0);
            useful = 0;
            for (int land = 0; land < LANDS; land++) {
                if (world.shares[land] > 0) {
                    useful |= world.knowns[land];
                }
            }
            madeSet = NONE;
            tryMade(0, 0, 0);
        }

        private void tryMade(int set, int next, int count) {
            if (reader.isOfGrammar()) {
                weighMade(set, count);
            }
            if (count >= PARTS) {
                return;
            }
            for (int i = next; i < lists.stocked; i++) {
                int code = lists.stock[i];
                addToRows(code, count);
                reader.facts[kindOf(code)]++;
                reader.facts[FACT_PARTS]++;
                tryMade(set | 1 << i, i + 1, count + 1);
                reader.facts[kindOf(code)]--;
                reader.facts[FACT_PARTS]--;
            }
        }

        private static int rowAt(int count, int thing) {
            return (count * THINGS + thing) * SUBSETS;
        }

        private void addToRows(int code, int count) {
            for (int thing = 0; thing < looks.things; thing++) {
                if ((useful >> thing & 1) != 0) {
                    nearness.widen(code, DRAWINGS + thing, rows, rowAt(count, thing), rowAt(count + 1, thing));
                }
            }
        }

        private void weighMade(int set, int count) {
            for (int thing = 0; thing < looks.things; thing++) {
                if ((useful >> thing & 1) != 0) {
                    int look = DRAWINGS + thing;
                    int gain = rows[rowAt(count, thing) + nearness.lastSubset(look)];
                    reader.setFar(thing, nearness.total(count, looks.colours[drawing], look, gain));
                }
            }
            reader.consult();
            int harm = reader.allHarm();
            if (madeSet == NONE || harm < madeHarm || harm == madeHarm && isSmaller(set, count)) {
                madeSet = set;
                madeHarm = harm;
                madeCount = count;
            }
        }

        private boolean isSmaller(int set, int count) {
            return count < madeCount || count == madeCount && set < madeSet;
        }

        /** The DRAWING takes the PARTS that were found: how many. */
        int drawMade(int drawing) {
            int size = 0;
            for (int i = 0; i < lists.stocked; i++) {
                if ((madeSet >> i & 1) != 0 && size < PARTS) {
                    looks.codes[drawing * PARTS + size] = lists.stock[i];
                    size++;
                }
            }
            looks.sizes[drawing] = size;
            nearness.forget(drawing);
            return size;
        }

        void seekWorn(int drawing, int site, int n) {
            int size = looks.sizes[drawing];
            wornShares = NONE;
            for (int lost = 0; lost < 1 << size; lost++) {
                if (Integer.bitCount(lost) != n) {
                    continue;
                }
                reader.meetChanged(drawing, site, codes, keepBut(drawing, lost));
                int shares = reader.rightShares();
                if (wornShares == NONE || shares < wornShares) {
                    wornShares = shares;
                    wornSet = lost;
                }
            }
        }

        private int keepBut(int drawing, int lost) {
            int kept = 0;
            for (int i = 0; i < looks.sizes[drawing]; i++) {
                if ((lost >> i & 1) == 0) {
                    codes[kept] = looks.codes[drawing * PARTS + i];
                    kept++;
                }
            }
            return kept;
        }

        boolean seekMended(int one, int other, int d) {
            drawing = one;
            for (int part = 0; part < looks.sizes[one]; part++) {
                for (int change = 0; change <= PLACES + WAYS; change++) {
                    int size = changePart(part, change);
                    if (size != NONE && isApart(size, other, d)) {
                        mending[0] = part;
                        return true;
                    }
                }
            }
            return false;
        }

        /** Changes are the PLACES, then the WAYS, then going: how many PARTS there are then, or NONE for no change. */
        private int changePart(int part, int change) {
            int code = looks.codes[drawing * PARTS + part];
            if (change == PLACES + WAYS) {
                mending[1] = GOES;
                mending[2] = NONE;
                return keepBut(drawing, 1 << part);
            }
            boolean moves = change < PLACES;
            mending[1] = moves ? TO_PLACE : TO_WAY;
            mending[2] = moves ? change : change - PLACES;
            int place = moves ? change : placeOf(code);
            int way = moves ? wayOf(code) : change - PLACES;
            int changed = codeOf(kindOf(code), place, way);
            int size = keepBut(drawing, 0);
            // A PART left as it is is among those that are there, too.
            if (holds(codes, 0, size, changed)) {
                return NONE;
            }
            codes[part] = changed;
            return size;
        }

        private boolean isApart(int size, int other, int d) {
            mending[3] = nearness.measure(codes, 0, size, looks.colours[drawing], other);
            if (mending[3] < d) {
                return false;
            }
            reader.countFacts(drawing, 0, codes, 0, size);
            return reader.isOfGrammar();
        }
    }

    /** LEAST FAR, A CHOICE and BARS. */
    private static final class Chooser {
        private final Lists lists;
        private final Nearness nearness;
        private final int[] chosen = new int[SLOTS];
        final int[] best = new int[SLOTS];
        int bestLeast;
        private int furthest;
        int nearest;
        int nearOne;
        int nearOther;

        Chooser(Lists lists, Nearness nearness) {
            this.lists = lists;
            this.nearness = nearness;
        }

        void seekNearest(int set) {
            nearest = NONE;
            for (int one = 0; one < DRAWINGS; one++) {
                for (int other = one + 1; other < DRAWINGS; other++) {
                    if ((set >> one & set >> other & 1) == 0) {
                        continue;
                    }
                    int far = nearness.between(one, other);
                    if (nearest == NONE || far < nearest) {
                        nearest = far;
                        nearOne = one;
                        nearOther = other;
                    }
                }
            }
        }

        void seekChoice() {
            bestLeast = NONE;
            choose(0, FARTHEST);
        }

        private void choose(int slot, int least) {
            if (slot >= SLOTS) {
                bestLeast = least;
                copyAll(chosen, best);
                return;
            }
            if (lists.offered[slot] == 0) {
                choose(slot + 1, least);
                return;
            }
            for (int i = 0; i < lists.offered[slot]; i++) {
                chosen[slot] = lists.offers[slot * OFFERS + i];
                int now = Math.min(least, nearestBefore(slot));
                // The first of like ones stays, and more slots never bring the drawings further apart.
                if (now > bestLeast) {
                    choose(slot + 1, now);
                }
            }
        }

        private int nearestBefore(int slot) {
            int least = FARTHEST;
            for (int earlier = 0; earlier < slot; earlier++) {
                if (lists.offered[earlier] > 0) {
                    least = Math.min(least, nearness.between(chosen[earlier], chosen[slot]));
                }
            }
            return least;
        }

        int barredSlot(int d) {
            furthest = 0;
            advance(0, d);
            return furthest >= SLOTS ? NONE : furthest;
        }

        private void advance(int slot, int d) {
            furthest = Math.max(furthest, slot);
            if (slot >= SLOTS) {
                return;
            }
            if (lists.offered[slot] == 0) {
                advance(slot + 1, d);
                return;
            }
            for (int i = 0; i < lists.offered[slot] && furthest < SLOTS; i++) {
                chosen[slot] = lists.offers[slot * OFFERS + i];
                if (nearestBefore(slot) >= d) {
                    advance(slot + 1, d);
                }
            }
        }
    }

    /** The row: AMONG and BEST ORDER. A place is where a DRAWING was hung, whatever order is tried. */
    private static final class Hanger {
        private static final int UNKNOWN = -2;

        private final World world;
        private final Lists lists;
        private final Reader reader;
        private final int[] scores = new int[ROW * THINGS];
        private final int[] goals = new int[ROW];
        // What was TAKEN, by place, LAND and the GROUPS that the neighbours ahead and behind were TAKEN for.
        private final int[] tooks = new int[ROW * LANDS * GROUPS * GROUPS];
        private final int[] tried = new int[ROW];
        final int[] best = new int[ROW];
        int bestShares;

        Hanger(World world, Lists lists, Reader reader) {
            this.world = world;
            this.lists = lists;
            this.reader = reader;
        }

        void prepare(int site) {
            Arrays.fill(tooks, UNKNOWN);
            for (int place = 0; place < lists.hung; place++) {
                reader.score(lists.row[place], site);
                reader.regard(lists.row[place], site);
                System.arraycopy(reader.scores, 0, scores, place * THINGS, THINGS);
                goals[place] = reader.goal();
                tried[place] = place;
            }
        }

        int takenAmong(int i, int land) {
            int took = takenBeside(0, land, 0, 0);
            for (int at = 1; at <= i; at++) {
                took = takenBehind(at, land, took);
            }
            return took;
        }

        private int takenBehind(int at, int land, int ahead) {
            int next = at + 1 < lists.hung ? takenBeside(tried[at + 1], land, 0, 0) : NONE;
            return takenBeside(tried[at], land, world.groupOf(ahead), world.groupOf(next));
        }

        private int takenBeside(int place, int land, int ahead, int behind) {
            int at = ((place * LANDS + land) * GROUPS + ahead) * GROUPS + behind;
            if (tooks[at] == UNKNOWN) {
                int helped = 0;
                for (int thing = 0; thing < THINGS; thing++) {
                    int group = world.groups[thing];
                    if (group != 0 && (group == ahead || group == behind)) {
                        helped |= 1 << thing;
                    }
                }
                tooks[at] = world.pick(scores, place * THINGS, world.knowns[land], helped);
            }
            return tooks[at];
        }

        void seekOrder() {
            bestShares = NONE;
            arrange(0, 0);
        }

        private void arrange(int at, int used) {
            if (at >= lists.hung) {
                weighOrder();
                return;
            }
            for (int place = 0; place < lists.hung; place++) {
                if ((used >> place & 1) == 0) {
                    tried[at] = place;
                    arrange(at + 1, used | 1 << place);
                }
            }
        }

        private void weighOrder() {
            int shares = 0;
            for (int land = 0; land < LANDS; land++) {
                int took = NONE;
                for (int at = 0; at < lists.hung && world.shares[land] > 0; at++) {
                    took = at == 0 ? takenBeside(tried[0], land, 0, 0) : takenBehind(at, land, took);
                    shares += isRight(tried[at], land, took) ? world.shares[land] : 0;
                }
            }
            if (shares > bestShares) {
                bestShares = shares;
                copyAll(tried, best);
            }
        }

        private boolean isRight(int place, int land, int took) {
            boolean learnt = world.memories[lists.row[place] * LANDS + land] >= LEARNT;
            return learnt || took != NONE && took == goals[place];
        }
    }

    /**
     * MINDS. An ANSWER asks that some THINGS are in a mind and bars others, and nothing else; so the MINDS are
     * all sets with the needed THINGS and any of the free ones.
     */
    private static final class Minds {
        private final Looks looks;
        private final World world;
        private final Reader reader;
        private boolean possible;
        private int needed;
        private int barred;
        int parting;
        int unlike;

        Minds(Looks looks, World world, Reader reader) {
            this.looks = looks;
            this.world = world;
            this.reader = reader;
        }

        void gather(int land, int day) {
            possible = true;
            needed = 0;
            barred = 0;
            for (int i = 0; i < world.answered; i++) {
                if (world.answerLands[i] == land && world.answerDays[i] <= day) {
                    reader.score(world.answerDrawings[i], world.answerSites[i]);
                    heed(world.answerThings[i]);
                }
            }
            possible = possible && (needed & barred) == 0;
        }

        private void heed(int took) {
            if (took == NONE) {
                for (int thing = 0; thing < looks.things; thing++) {
                    barred |= reader.scores[thing] <= world.limit ? 1 << thing : 0;
                }
                return;
            }
            needed |= 1 << took;
            possible = possible && reader.scores[took] <= world.limit;
            for (int thing = 0; thing < looks.things; thing++) {
                if (thing != took && reader.take(1 << took | 1 << thing) != took) {
                    barred |= 1 << thing;
                }
            }
        }

        private int free() {
            return looks.toldThings() & ~needed & ~barred;
        }

        int count() {
            return possible ? 1 << Integer.bitCount(free()) : 0;
        }

        /** The i-th by rising bits: the bits of i go to the free THINGS. */
        int member(int i) {
            int set = needed;
            int free = free();
            int left = i;
            for (int thing = 0; thing < THINGS; thing++) {
                if ((free >> thing & 1) != 0) {
                    set |= (left & 1) << thing;
                    left >>= 1;
                }
            }
            return set;
        }

        int sureness(int thing) {
            if (!possible || (barred >> thing & 1) != 0) {
                return 0;
            }
            return (needed >> thing & 1) != 0 ? 2 : 1;
        }

        void seekParting(int site) {
            parting = NONE;
            unlike = 1;
            if (!possible) {
                return;
            }
            for (int drawing = 0; drawing < looks.drawings; drawing++) {
                reader.score(drawing, site);
                int ways = countWays();
                if (ways > unlike) {
                    unlike = ways;
                    parting = drawing;
                }
            }
        }

        /** A THING can be TAKEN if it is when no more than it joins the needed ones; nothing, if by those alone. */
        private int countWays() {
            int ways = reader.take(needed) == NONE ? 1 : 0;
            for (int thing = 0; thing < looks.things; thing++) {
                if ((barred >> thing & 1) == 0 && reader.take(needed | 1 << thing) == thing) {
                    ways++;
                }
            }
            return ways;
        }
    }
}
