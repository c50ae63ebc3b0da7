import java.util.Arrays;

/** Posts and the roads between them: what crosses, what it costs, and how least is crossed. */
public final class RoadsCrossed {
    public static final int BAD = -1000000001, NO = -1000000002, FULL = -1000000003, NONE = -1000000005, NOTHING = -1000000011, KIND = -1000000012, INDEX = -1000000013, SIZE = -1000000014;

    private static final int FINE = 0;

    private static final int POSTS_MOST = 8;
    private static final int ROADS_MOST = 18;
    private static final int SIDE = 100;
    private static final int LAYERS = 4;
    private static final int PAGES = 4;
    private static final int WEIGHT_MOST = 9;
    private static final int ROW_MOST = 5;
    private static final int ROW_ORDERS = 120;
    private static final int SWAPS_MOST = 30;
    private static final int DRAWS_MOST = 20;
    private static final int TEXTS_MOST = 14;
    private static final int TAPE_MOST = 96;
    private static final int SHEETS = 4;
    private static final int PLACES_MOST = 24;
    private static final int FLOAT_MOST = 99999;
    private static final int SLOTS = 5;
    private static final int WAIT_MOST = 60;
    private static final int HARM_MOST = 99;
    private static final int COST_MOST = 999;
    private static final int NO_LIMIT = Integer.MAX_VALUE;

    private static final int ROAD = 0;
    private static final int PAVED = 1;
    private static final int TRACK = 2;
    private static final int TOLL = 3;
    private static final int MUD = 4;
    private static final int BRIDGE = 5;
    private static final int KINDS = 6;
    private static final int[] ABOVE = {-1, ROAD, ROAD, PAVED, TRACK, ROAD};

    private static final int STRAIGHT = 0;
    private static final int IN_BOOK = 1;
    private static final int IN_LAYERS = 2;

    private static final int HARM_KEY = 0;
    private static final int CROSS_KEY = 1;
    private static final int SWAP_KEY = 2;
    private static final int KEYS = 3;

    private static final int HOLDS_NOTHING = 0;
    private static final int HOLDS_ROAD = 1;
    private static final int HOLDS_SHEET = 2;
    private static final int HOLDS_NUMBER = 3;

    private static final int MISSING = -1;
    private static final int SHORTS = 0;
    private static final int FLOATS = 1;

    private final Land now = new Land();
    private final Land image = new Land();
    private final Land trial = new Land();
    private boolean kept = false;
    private final Reader reader = new Reader();
    private final Costs costs = new Costs();
    private final SwapSearch swapSearch = new SwapSearch();
    private final PageSearch pageSearch = new PageSearch();
    private final LineSearch lineSearch = new LineSearch();
    private final RowSearch rowSearch = new RowSearch();
    private final Sheet[] sheets = new Sheet[SHEETS];
    private final Slot[] slots = new Slot[SLOTS];
    private final int[] waiting = new int[WAIT_MOST];
    private int waits = 0;

    public RoadsCrossed() {
        for (int i = 0; i < SHEETS; i++) {
            sheets[i] = new Sheet();
        }
        for (int i = 0; i < SLOTS; i++) {
            slots[i] = new Slot();
        }
    }

    // ---- posts

    public int post(int x, int y) {
        int refusal = now.postRefusal(x, y);
        return refusal != FINE ? refusal : now.addPost(x, y);
    }

    public int postTold(int post, int what) {
        if (!now.isPost(post)) {
            return BAD;
        }
        switch (what) {
            case 0:
                return now.x[post];
            case 1:
                return now.y[post];
            case 2:
                return now.layer[post];
            case 3:
                return now.place[post];
            case 4:
                return now.roadsFrom(post);
            default:
                return BAD;
        }
    }

    public int move(int post, int x, int y) {
        if (!now.isPost(post) || !isPlace(x, y)) {
            return BAD;
        }
        int there = now.postAt(x, y);
        if (there == post) {
            return 0;
        }
        if (there >= 0) {
            return NO;
        }
        now.x[post] = x;
        now.y[post] = y;
        return 1;
    }

    public int layer(int post, int v) {
        if (!now.isPost(post) || !isLayer(v)) {
            return BAD;
        }
        int was = now.layer[post];
        now.layer[post] = v;
        return was;
    }

    // ---- roads

    public int road(int kind, int ends, int weight) {
        int one = ends / 10;
        int other = ends % 10;
        if (!isKind(kind) || !isWeight(weight)) {
            return BAD;
        }
        int refusal = now.roadRefusal(one, other);
        return refusal != FINE ? refusal : now.addRoad(kind, one, other, weight);
    }

    public int told(int road, int what) {
        if (!now.isRoad(road)) {
            return BAD;
        }
        switch (what) {
            case 0:
                return now.kind[road];
            case 1:
                return now.low[road];
            case 2:
                return now.high[road];
            case 3:
                return now.weight[road];
            case 4:
                return now.page[road];
            case 5:
                return costs.harmOf(now, road);
            case 6:
                return worthOf(now.kind[road], now.weight[road]);
            default:
                return BAD;
        }
    }

    public int as(int road, int kind) {
        if (!now.isRoad(road) || !isKind(kind)) {
            return BAD;
        }
        return isUnder(now.kind[road], kind) ? now.weight[road] : KIND;
    }

    public int turns(int road, int kind) {
        if (!now.isRoad(road) || !isKind(kind)) {
            return BAD;
        }
        int was = now.kind[road];
        now.kind[road] = kind;
        return was;
    }

    public int set(int road, int what, int v) {
        if (!now.isRoad(road)) {
            return BAD;
        }
        if (what == 0 && isWeight(v)) {
            int was = now.weight[road];
            now.weight[road] = v;
            return was;
        }
        if (what == 1 && isPage(v)) {
            int was = now.page[road];
            now.page[road] = v;
            return was;
        }
        return BAD;
    }

    public int drop(int road) {
        if (!now.isRoad(road)) {
            return BAD;
        }
        now.dropRoad(road);
        return now.roads;
    }

    // ---- straight

    public int cross(int one, int other) {
        if (!now.isRoad(one) || !now.isRoad(other) || one == other) {
            return BAD;
        }
        return now.meet(STRAIGHT, one, other) ? 1 : 0;
    }

    public int straight(int what) {
        return what == 2 ? dearestRoad() : crossingsTold(STRAIGHT, what);
    }

    public int bound() {
        if (now.posts < 3) {
            return 0;
        }
        int least = Math.max(0, now.roads - 3 * now.posts + 6);
        if (now.isTwoSided()) {
            least = Math.max(least, now.roads - 2 * now.posts + 4);
        }
        return least;
    }

    public int would(int a, int b) {
        if (!now.isPost(a) || !now.isPost(b) || a == b) {
            return BAD;
        }
        costs.reckon(now);
        trial.takeFrom(now);
        trial.swapPosts(a, b);
        return costs.sum(trial, STRAIGHT, NO_LIMIT) - costs.sum(now, STRAIGHT, NO_LIMIT);
    }

    public int best(int what) {
        if (what != 0 && what != 1) {
            return BAD;
        }
        costs.reckon(now);
        if (!swapSearch.search(now, costs)) {
            return NONE;
        }
        return what == 0 ? swapSearch.pair() : swapSearch.least;
    }

    public int swaps(int n) {
        if (n < 1 || n > SWAPS_MOST) {
            return BAD;
        }
        costs.reckon(now);
        int done = 0;
        for (; done < n; done++) {
            if (!swapSearch.search(now, costs)) {
                break;
            }
            now.swapPosts(swapSearch.one, swapSearch.other);
        }
        return done;
    }

    // ---- the line, the book, layers

    public int line(int sheet) {
        if (!isSheet(sheet)) {
            return BAD;
        }
        Sheet row = sheets[sheet];
        if (row.isMissing()) {
            return NOTHING;
        }
        if (row.size != now.posts) {
            return SIZE;
        }
        if (row.hasNoNumber()) {
            return KIND;
        }
        if (!row.isOrderOf(now.posts)) {
            return BAD;
        }
        for (int i = 0; i < now.posts; i++) {
            now.putInLine(i, row.values[i]);
        }
        return now.posts;
    }

    public int at(int place) {
        // There are as many places in the line as posts.
        return now.isPost(place) ? now.line[place] : BAD;
    }

    public int book(int what) {
        return crossingsTold(IN_BOOK, what);
    }

    public int pages(int what) {
        if (what != -1 && !now.isRoad(what)) {
            return BAD;
        }
        int fewest = pageSearch.search(now);
        return what == -1 ? fewest : pageSearch.found[what];
    }

    public int bestLine(int what) {
        if (what < -1) {
            return BAD;
        }
        if (now.posts == 0) {
            return NO;
        }
        if (what >= now.posts) {
            return NONE;
        }
        costs.reckon(now);
        lineSearch.search(now, costs.ofTwo);
        return what == -1 ? lineSearch.least : lineSearch.found[what];
    }

    public int layers(int what) {
        return crossingsTold(IN_LAYERS, what);
    }

    public int bestRow(int layer, int what) {
        if (!isLayer(layer) || what < -1) {
            return BAD;
        }
        int size = now.postsOf(layer);
        if (size > ROW_MOST) {
            return NO;
        }
        if (what >= size) {
            return NONE;
        }
        costs.reckon(now);
        trial.takeFrom(now);
        rowSearch.search(trial, layer, costs);
        return what == -1 ? rowSearch.least : rowSearch.found[what];
    }

    // ---- lots

    public int deal(int what, int n) {
        if (what != 0 && what != 1 || n < 1 || n > DRAWS_MOST) {
            return BAD;
        }
        if (what == 1 && now.posts == 0) {
            return NO;
        }
        int came = 0;
        for (int i = 0; i < n; i++) {
            if (what == 0 ? now.drawPost() : now.drawRoad()) {
                came++;
            }
        }
        return came;
    }

    public int seed(int v) {
        int was = now.z;
        now.z = v;
        return was;
    }

    // ---- texts

    public int feed(int a, int b, int c) {
        if (reader.taped + 12 > TAPE_MOST) {
            return FULL;
        }
        reader.feedNumber(a);
        reader.feedNumber(b);
        reader.feedNumber(c);
        return reader.taped;
    }

    public int trim(int n) {
        if (n < 0 || n > reader.taped) {
            return BAD;
        }
        reader.taped = n;
        return n;
    }

    public int text() {
        int fault = reader.read();
        reader.taped = 0;
        if (fault >= 0) {
            return -100 - fault;
        }
        if (now.texts >= TEXTS_MOST) {
            return FULL;
        }
        costs.laws.put(now.texts, reader);
        now.texts++;
        return now.texts - 1;
    }

    public int textTold(int text, int what) {
        if (text < 0 || text >= now.texts) {
            return BAD;
        }
        switch (what) {
            case 0:
                return costs.laws.keys[text];
            case 1:
                return costs.laws.leaves[text];
            default:
                return BAD;
        }
    }

    public int why(int key) {
        if (key < 0 || key >= KEYS) {
            return BAD;
        }
        int text = costs.laws.lastOf(now.texts, key);
        return text < 0 ? NONE : text;
    }

    // ---- sheets, slots

    public int sheet(int sheet, int sort, int n) {
        if (!isSheet(sheet) || sort < MISSING || sort > FLOATS) {
            return BAD;
        }
        if (sort == MISSING) {
            sheets[sheet].become(MISSING, 0);
            return 0;
        }
        if (n > PLACES_MOST) {
            return BAD;
        }
        if (n < 0) {
            return SIZE;
        }
        sheets[sheet].become(sort, n);
        return n;
    }

    public int mark(int sheet, int place, int v) {
        if (!isSheet(sheet)) {
            return BAD;
        }
        Sheet row = sheets[sheet];
        if (row.isMissing()) {
            return NOTHING;
        }
        if (!row.hasPlace(place)) {
            return INDEX;
        }
        if (row.sort == SHORTS) {
            if (v == NONE) {
                return KIND;
            }
            row.values[place] = (short) v;
            return 1;
        }
        if (v != NONE && (v < -FLOAT_MOST || v > FLOAT_MOST)) {
            return BAD;
        }
        row.values[place] = v;
        return 1;
    }

    public int pour(int sheet) {
        if (!isSheet(sheet)) {
            return BAD;
        }
        Sheet row = sheets[sheet];
        if (row.isMissing()) {
            return NOTHING;
        }
        int came = 0;
        for (; came < row.size; came++) {
            // NONE is far below 0, so NO NUMBER is refused as a place like any other number below 0.
            int v = row.values[came];
            if (v < 0 || now.postRefusal(v / SIDE, v % SIDE) != FINE) {
                break;
            }
            now.addPost(v / SIDE, v % SIDE);
        }
        return came;
    }

    public int copy(int from, int place, int to, int at, int many) {
        if (!isSheet(from) || !isSheet(to)) {
            return BAD;
        }
        Sheet source = sheets[from];
        Sheet target = sheets[to];
        if (source.isMissing() || target.isMissing()) {
            return NOTHING;
        }
        if (source.sort != target.sort) {
            return KIND;
        }
        if (!source.hasPlaces(place, many) || !target.hasPlaces(at, many)) {
            return INDEX;
        }
        System.arraycopy(source.values, place, target.values, at, many);
        return many;
    }

    public int lay(int slot, int thing, int k) {
        if (!isSlot(slot) || thing < HOLDS_NOTHING || thing > HOLDS_NUMBER) {
            return BAD;
        }
        if (thing == HOLDS_ROAD && !now.isRoad(k) || thing == HOLDS_SHEET && !isSheet(k)) {
            return BAD;
        }
        if (thing == HOLDS_SHEET && sheets[k].isMissing()) {
            return NOTHING;
        }
        Slot holder = slots[slot];
        int was = holder.thing;
        holder.thing = thing;
        if (thing == HOLDS_ROAD) {
            holder.kind = now.kind[k];
            holder.weight = now.weight[k];
        } else if (thing == HOLDS_SHEET) {
            holder.row.takeFrom(sheets[k]);
        } else {
            holder.number = k;
        }
        return was;
    }

    public int ask(int slot, int kind) {
        if (!isSlot(slot) || !isKind(kind)) {
            return BAD;
        }
        Slot holder = slots[slot];
        int refusal = holder.refusalAs(HOLDS_ROAD);
        if (refusal != FINE) {
            return refusal;
        }
        return isUnder(holder.kind, kind) ? worthOf(holder.kind, holder.weight) : KIND;
    }

    public int item(int slot, int place) {
        if (!isSlot(slot)) {
            return BAD;
        }
        Slot holder = slots[slot];
        int refusal = holder.refusalAs(HOLDS_SHEET);
        if (refusal != FINE) {
            return refusal;
        }
        if (!holder.row.hasPlace(place)) {
            return INDEX;
        }
        int v = holder.row.values[place];
        return v == NONE ? KIND : v;
    }

    public int rest(int slot, int n) {
        if (!isSlot(slot)) {
            return BAD;
        }
        Slot holder = slots[slot];
        int refusal = holder.refusalAs(HOLDS_NUMBER);
        if (refusal != FINE) {
            return refusal;
        }
        return n == 0 ? NO : holder.number % n;
    }

    // ---- rows, images

    public int tell(int v) {
        if (waits >= WAIT_MOST) {
            return FULL;
        }
        waiting[waits] = v;
        waits++;
        return waits;
    }

    public int check(int n) {
        int told = waits;
        waits = 0;
        if (n < 1 || n > SWAPS_MOST) {
            return BAD;
        }
        if (!kept) {
            return NO;
        }
        return checkSwapsTold(n, told);
    }

    public int keep() {
        image.takeFrom(now);
        kept = true;
        return image.roads;
    }

    public int back() {
        if (!kept) {
            return NO;
        }
        now.takeFrom(image);
        return now.roads;
    }

    public int count(int what) {
        switch (what) {
            case 0:
                return now.posts;
            case 1:
                return now.roads;
            case 2:
                return now.texts;
            case 3:
                return waits;
            case 4:
                return reader.taped;
            case 5:
                return now.z;
            default:
                return BAD;
        }
    }

    // ---- what several calls share

    private int crossingsTold(int way, int what) {
        if (what == 0) {
            return now.pairsThatMeet(way);
        }
        if (what != 1) {
            return BAD;
        }
        costs.reckon(now);
        return costs.sum(now, way, NO_LIMIT);
    }

    private int dearestRoad() {
        if (now.pairsThatMeet(STRAIGHT) == 0) {
            return NONE;
        }
        costs.reckon(now);
        int dearest = 0;
        int most = -1;
        for (int r = 0; r < now.roads; r++) {
            int own = costs.straightSumOf(now, r);
            if (own > most) {
                dearest = r;
                most = own;
            }
        }
        return dearest;
    }

    private int checkSwapsTold(int n, int told) {
        trial.takeFrom(image);
        costs.reckon(trial);
        for (int i = 0; i < n; i++) {
            int pair = -1;
            if (swapSearch.search(trial, costs)) {
                pair = swapSearch.pair();
                trial.swapPosts(swapSearch.one, swapSearch.other);
            }
            int right = 2 * i;
            if (right >= told || waiting[right] != pair) {
                return 1 + right;
            }
            // Without a swap the search leaves the cost as it is now in "least".
            if (right + 1 >= told || waiting[right + 1] != swapSearch.least) {
                return 2 + right;
            }
        }
        return told > 2 * n ? 1 + 2 * n : 0;
    }

    private static boolean isPlace(int x, int y) {
        return x >= 0 && x < SIDE && y >= 0 && y < SIDE;
    }

    private static boolean isLayer(int v) {
        return v >= 0 && v < LAYERS;
    }

    private static boolean isPage(int v) {
        return v >= 0 && v < PAGES;
    }

    private static boolean isKind(int v) {
        return v >= 0 && v < KINDS;
    }

    private static boolean isWeight(int v) {
        return v >= 1 && v <= WEIGHT_MOST;
    }

    private static boolean isSheet(int v) {
        return v >= 0 && v < SHEETS;
    }

    private static boolean isSlot(int v) {
        return v >= 0 && v < SLOTS;
    }

    private static int within(int v, int most) {
        return Math.max(0, Math.min(most, v));
    }

    // ---- kinds

    private static boolean isUnder(int kind, int above) {
        int k = kind;
        for (int step = 0; step < KINDS; step++) {
            if (k == above) {
                return true;
            }
            if (!isKind(k)) {
                return false;
            }
            k = ABOVE[k];
        }
        return false;
    }

    private static int harmAs(int kind, int plain, int weight) {
        switch (kind) {
            case PAVED:
                return plain + 2;
            case TOLL:
                return 2 * (plain + 2);
            case TRACK:
                return (plain + 1) / 2;
            case MUD:
                return (plain + 1) / 2 + weight;
            case BRIDGE:
                return 0;
            default:
                return plain;
        }
    }

    private static int worthOf(int kind, int weight) {
        int plain = 10 - weight;
        switch (kind) {
            case PAVED:
                return plain + 5;
            case TOLL:
                return plain + 5 - weight;
            case TRACK:
            case MUD:
                return plain / 2;
            case BRIDGE:
                return 20;
            default:
                return plain;
        }
    }

    /** All that an image keeps: posts, roads, the line, the lot, and how many texts count. */
    private static final class Land {
        int posts = 0;
        final int[] x = new int[POSTS_MOST];
        final int[] y = new int[POSTS_MOST];
        final int[] layer = new int[POSTS_MOST];
        /** Which post stands at a place of the line, and the other way round. */
        final int[] line = new int[POSTS_MOST];
        final int[] place = new int[POSTS_MOST];
        int roads = 0;
        final int[] kind = new int[ROADS_MOST];
        final int[] low = new int[ROADS_MOST];
        final int[] high = new int[ROADS_MOST];
        final int[] weight = new int[ROADS_MOST];
        final int[] page = new int[ROADS_MOST];
        int texts = 0;
        int z = 1;

        void takeFrom(Land other) {
            posts = other.posts;
            takeRow(other.x, x);
            takeRow(other.y, y);
            takeRow(other.layer, layer);
            takeRow(other.line, line);
            takeRow(other.place, place);
            roads = other.roads;
            takeRow(other.kind, kind);
            takeRow(other.low, low);
            takeRow(other.high, high);
            takeRow(other.weight, weight);
            takeRow(other.page, page);
            texts = other.texts;
            z = other.z;
        }

        private static void takeRow(int[] from, int[] to) {
            System.arraycopy(from, 0, to, 0, Math.min(from.length, to.length));
        }

        boolean isPost(int p) {
            return p >= 0 && p < posts;
        }

        boolean isRoad(int r) {
            return r >= 0 && r < roads;
        }

        int postAt(int px, int py) {
            for (int p = 0; p < posts; p++) {
                if (x[p] == px && y[p] == py) {
                    return p;
                }
            }
            return -1;
        }

        int postRefusal(int px, int py) {
            if (!isPlace(px, py)) {
                return BAD;
            }
            if (postAt(px, py) >= 0) {
                return NO;
            }
            return posts >= POSTS_MOST ? FULL : FINE;
        }

        /** Only behind postRefusal. */
        int addPost(int px, int py) {
            int p = posts;
            posts++;
            x[p] = px;
            y[p] = py;
            layer[p] = 0;
            putInLine(p, p);
            return p;
        }

        void putInLine(int where, int post) {
            line[where] = post;
            place[post] = where;
        }

        void swapPosts(int a, int b) {
            int ax = x[a];
            int ay = y[a];
            x[a] = x[b];
            y[a] = y[b];
            x[b] = ax;
            y[b] = ay;
        }

        int postsOf(int l) {
            int many = 0;
            for (int p = 0; p < posts; p++) {
                if (layer[p] == l) {
                    many++;
                }
            }
            return many;
        }

        int roadsFrom(int post) {
            int many = 0;
            for (int r = 0; r < roads; r++) {
                if (low[r] == post || high[r] == post) {
                    many++;
                }
            }
            return many;
        }

        private boolean hasRoad(int one, int other) {
            int less = Math.min(one, other);
            int more = Math.max(one, other);
            for (int r = 0; r < roads; r++) {
                if (low[r] == less && high[r] == more) {
                    return true;
                }
            }
            return false;
        }

        int roadRefusal(int one, int other) {
            if (!isPost(one) || !isPost(other) || one == other) {
                return BAD;
            }
            if (hasRoad(one, other)) {
                return NO;
            }
            return roads >= ROADS_MOST ? FULL : FINE;
        }

        /** Only behind roadRefusal. */
        int addRoad(int k, int one, int other, int w) {
            int r = roads;
            roads++;
            kind[r] = k;
            low[r] = Math.min(one, other);
            high[r] = Math.max(one, other);
            weight[r] = w;
            page[r] = 0;
            return r;
        }

        void dropRoad(int road) {
            for (int r = road; r + 1 < roads; r++) {
                kind[r] = kind[r + 1];
                low[r] = low[r + 1];
                high[r] = high[r + 1];
                weight[r] = weight[r + 1];
                page[r] = page[r + 1];
            }
            roads--;
        }

        /** The rest of a draw by a number above 0. */
        private int draw(int by) {
            z = z * 1103515245 + 12345;
            return by > 0 ? (z >>> 8) % by : 0;
        }

        boolean drawPost() {
            int px = draw(SIDE);
            int py = draw(SIDE);
            if (postRefusal(px, py) != FINE) {
                return false;
            }
            addPost(px, py);
            return true;
        }

        boolean drawRoad() {
            int one = draw(posts);
            int other = draw(posts);
            if (roadRefusal(one, other) != FINE) {
                return false;
            }
            addRoad(ROAD, one, other, 1 + draw(WEIGHT_MOST));
            return true;
        }

        /** Whether posts can be parted in two sets so that each road is from the one to the other. */
        boolean isTwoSided() {
            for (int side = 0; side < 1 << posts; side++) {
                if (isParted(side)) {
                    return true;
                }
            }
            return false;
        }

        private boolean isParted(int side) {
            for (int r = 0; r < roads; r++) {
                if ((side >> low[r] & 1) == (side >> high[r] & 1)) {
                    return false;
                }
            }
            return true;
        }

        int pairsThatMeet(int way) {
            int many = 0;
            for (int r = 0; r < roads; r++) {
                for (int s = r + 1; s < roads; s++) {
                    if (meet(way, r, s)) {
                        many++;
                    }
                }
            }
            return many;
        }

        boolean meet(int way, int r, int s) {
            if (shareEnd(r, s)) {
                return false;
            }
            switch (way) {
                case STRAIGHT:
                    return meetStraight(low[r], high[r], low[s], high[s]);
                case IN_BOOK:
                    return page[r] == page[s] && meetInLine(r, s);
                default:
                    return meetInLayers(r, s);
            }
        }

        boolean shareEnd(int r, int s) {
            return low[r] == low[s] || low[r] == high[s] || high[r] == low[s] || high[r] == high[s];
        }

        private boolean meetStraight(int a, int b, int c, int d) {
            return !areApart(x[a], x[b], x[c], x[d])
                && !areApart(y[a], y[b], y[c], y[d])
                && side(a, b, c) * side(a, b, d) <= 0
                && side(c, d, a) * side(c, d, b) <= 0;
        }

        private static boolean areApart(int a, int b, int c, int d) {
            return a < c && a < d && b < c && b < d || a > c && a > d && b > c && b > d;
        }

        /** On which side of the line from a to b the post c stands: below 0, 0 or above 0. */
        private int side(int a, int b, int c) {
            return (x[b] - x[a]) * (y[c] - y[a]) - (y[b] - y[a]) * (x[c] - x[a]);
        }

        /** Only for roads without a post in common; on one page or not. */
        boolean meetInLine(int r, int s) {
            int from = Math.min(place[low[r]], place[high[r]]);
            int to = Math.max(place[low[r]], place[high[r]]);
            int one = place[low[s]];
            int other = place[high[s]];
            return (from < one && one < to) != (from < other && other < to);
        }

        private boolean meetInLayers(int r, int s) {
            int l = upperLayer(r);
            if (l < 0 || l != upperLayer(s)) {
                return false;
            }
            int up = place[endIn(r, l)] - place[endIn(s, l)];
            int down = place[endIn(r, l + 1)] - place[endIn(s, l + 1)];
            return up < 0 != down < 0;
        }

        /** l, if a road is between a post of layer l and one of layer l and 1; else -1. */
        private int upperLayer(int r) {
            int one = layer[low[r]];
            int other = layer[high[r]];
            return Math.abs(one - other) == 1 ? Math.min(one, other) : -1;
        }

        private int endIn(int r, int l) {
            return layer[low[r]] == l ? low[r] : high[r];
        }
    }

    /** The texts as they have been told, each as a row of signs to be worked out from left to right. */
    private static final class Laws {
        final int[] keys = new int[TEXTS_MOST];
        final int[] leaves = new int[TEXTS_MOST];
        private final int[] lengths = new int[TEXTS_MOST];
        private final int[][] codes = new int[TEXTS_MOST][TAPE_MOST];
        private final int[] stack = new int[TAPE_MOST];

        void put(int text, Reader reader) {
            keys[text] = reader.key;
            leaves[text] = reader.leaves;
            lengths[text] = reader.length;
            System.arraycopy(reader.code, 0, codes[text], 0, reader.length);
        }

        /** The last of the first texts with a key; -1: none. */
        int lastOf(int texts, int key) {
            for (int t = Math.min(texts, TEXTS_MOST) - 1; t >= 0; t--) {
                if (keys[t] == key) {
                    return t;
                }
            }
            return -1;
        }

        int answer(int text, int first, int second, int third) {
            int[] code = codes[text];
            int top = 0;
            for (int i = 0; i < lengths[text]; i++) {
                int sign = code[i];
                if (sign >= Reader.THIRD_NAME) {
                    if (top < TAPE_MOST) {
                        stack[top] = valueOf(sign, first, second, third);
                        top++;
                    }
                } else if (sign == -'!') {
                    if (top > 0) {
                        stack[top - 1] = stack[top - 1] == 0 ? 1 : 0;
                    }
                } else if (top > 1) {
                    top--;
                    stack[top - 1] = apply(-sign, stack[top - 1], stack[top]);
                }
            }
            return stack[0];
        }

        private static int valueOf(int sign, int first, int second, int third) {
            switch (sign) {
                case Reader.FIRST_NAME:
                    return first;
                case Reader.SECOND_NAME:
                    return second;
                case Reader.THIRD_NAME:
                    return third;
                default:
                    return sign;
            }
        }

        private static int apply(int sign, int left, int right) {
            switch (sign) {
                case '|':
                    return left != 0 || right != 0 ? 1 : 0;
                case '&':
                    return left != 0 && right != 0 ? 1 : 0;
                case '<':
                    return left < right ? 1 : 0;
                case '=':
                    return left == right ? 1 : 0;
                case '>':
                    return left > right ? 1 : 0;
                case '+':
                    return left + right;
                case '-':
                    return left - right;
                case '*':
                    return left * right;
                default:
                    return right == 0 ? 0 : left / right;
            }
        }
    }

    /** The tape; reads it as a text, and writes that down with each sign behind what it joins. */
    private static final class Reader {
        /** Signs of a text that is written down: numbers as they are, names, then bytes below 0. */
        static final int FIRST_NAME = -1;
        static final int SECOND_NAME = -2;
        static final int THIRD_NAME = -3;

        private static final int BLANK = 32;
        private static final int NESTED_MOST = 8;
        private static final int DIGITS_MOST = 4;

        /** What a token is, if it is not a sign (which is told by its byte). */
        private static final int END = -1;
        private static final int LETTERS = -2;
        private static final int DIGITS = -3;
        private static final int STUCK = -4;

        /** How tightly signs bind, the loosest first. */
        private static final int OR = 0;
        private static final int AND = 1;
        private static final int TEST = 2;
        private static final int SUM = 3;
        private static final int TERM = 4;

        int taped = 0;
        int key = 0;
        int leaves = 0;
        int length = 0;
        final int[] code = new int[TAPE_MOST];
        private final int[] tape = new int[TAPE_MOST];
        private int token = END;
        private int from = 0;
        private int to = 0;
        private int fault = -1;

        void feedNumber(int v) {
            for (int shift = 24; shift >= 0; shift -= 8) {
                if (taped < TAPE_MOST) {
                    tape[taped] = v >>> shift & 255;
                    taped++;
                }
            }
        }

        /** The place of the fault; -1: there is none, and key, leaves, code and length tell the text. */
        int read() {
            token = END;
            to = 0;
            fault = -1;
            leaves = 0;
            length = 0;
            next();
            key = keyHere();
            if (key < 0) {
                fail();
                return fault;
            }
            next();
            chain(OR, 0, 0);
            if (token != END) {
                fail();
            }
            return fault;
        }

        private void fail() {
            if (fault < 0) {
                fault = from;
            }
        }

        private void next() {
            int last = to;
            boolean behindWord = token == LETTERS || token == DIGITS;
            from = behindRow(last, BLANK, BLANK);
            if (from >= taped) {
                to = taped;
                token = END;
            } else if (isWithin(tape[from], 'a', 'z')) {
                to = behindRow(from, 'a', 'z');
                token = LETTERS;
            } else if (isWithin(tape[from], '0', '9')) {
                to = behindRow(from, '0', '9');
                token = DIGITS;
            } else {
                to = from + 1;
                token = tape[from];
            }
            if (behindWord && from == last && (token == LETTERS || token == DIGITS)) {
                token = STUCK;
            }
        }

        private static boolean isWithin(int v, int least, int most) {
            return v >= least && v <= most;
        }

        /** The first place from one on whose byte is not within two others. */
        private int behindRow(int start, int least, int most) {
            for (int i = start; i < taped; i++) {
                if (!isWithin(tape[i], least, most)) {
                    return i;
                }
            }
            return taped;
        }

        private boolean isHere(String word) {
            if (token != LETTERS || to - from != word.length()) {
                return false;
            }
            for (int i = 0; i < word.length(); i++) {
                if (tape[from + i] != word.charAt(i)) {
                    return false;
                }
            }
            return true;
        }

        private int keyHere() {
            if (isHere("harm")) {
                return HARM_KEY;
            }
            if (isHere("cross")) {
                return CROSS_KEY;
            }
            return isHere("swap") ? SWAP_KEY : -1;
        }

        private void chain(int level, int brackets, int nots) {
            if (level > TERM) {
                piece(brackets, nots);
                return;
            }
            chain(level + 1, brackets, nots);
            int most = level == TEST ? 1 : TAPE_MOST;
            for (int i = 0; i < most && fault < 0 && levelOf(token) == level; i++) {
                int sign = token;
                next();
                chain(level + 1, brackets, nots);
                write(-sign);
            }
        }

        /** How tightly a sign between two pieces binds; -1: it is no such sign. */
        private static int levelOf(int sign) {
            switch (sign) {
                case '|':
                    return OR;
                case '&':
                    return AND;
                case '<':
                case '=':
                case '>':
                    return TEST;
                case '+':
                case '-':
                    return SUM;
                case '*':
                case '/':
                    return TERM;
                default:
                    return -1;
            }
        }

        private void piece(int brackets, int nots) {
            if (token == DIGITS && to - from <= DIGITS_MOST) {
                writeLeaf(numberHere());
            } else if (token == LETTERS && nameHere() < 0) {
                writeLeaf(nameHere());
            } else if (token == '!' && nots < NESTED_MOST) {
                next();
                piece(brackets, nots + 1);
                write(-'!');
            } else if (token == '(' && brackets < NESTED_MOST) {
                next();
                chain(OR, brackets + 1, nots);
                if (token == ')') {
                    next();
                } else {
                    fail();
                }
            } else {
                fail();
            }
        }

        private int numberHere() {
            int v = 0;
            for (int i = from; i < to; i++) {
                v = 10 * v + tape[i] - '0';
            }
            return v;
        }

        /** A name's sign; 0: here is none of this key. */
        private int nameHere() {
            if (to - from != 1) {
                return 0;
            }
            switch (tape[from]) {
                case 'w':
                    return key == HARM_KEY ? FIRST_NAME : 0;
                case 'a':
                    return key == HARM_KEY ? SECOND_NAME : key == SWAP_KEY ? FIRST_NAME : 0;
                case 'b':
                    return key == HARM_KEY ? THIRD_NAME : key == SWAP_KEY ? SECOND_NAME : 0;
                case 'p':
                    return key == CROSS_KEY ? FIRST_NAME : 0;
                case 'q':
                    return key == CROSS_KEY ? SECOND_NAME : 0;
                default:
                    return 0;
            }
        }

        private void writeLeaf(int sign) {
            leaves++;
            write(sign);
            next();
        }

        private void write(int sign) {
            if (length < TAPE_MOST) {
                code[length] = sign;
                length++;
            }
        }
    }

    /** What each road harms and what each two roads cost, if they cross; reckoned anew for each call. */
    private static final class Costs {
        final Laws laws = new Laws();
        private final int[] harms = new int[ROADS_MOST];
        final int[][] ofTwo = new int[ROADS_MOST][ROADS_MOST];

        int harmOf(Land land, int r) {
            int text = laws.lastOf(land.texts, HARM_KEY);
            int weight = land.weight[r];
            int plain = text < 0 ? weight : within(laws.answer(text, weight, land.low[r], land.high[r]), HARM_MOST);
            return harmAs(land.kind[r], plain, weight);
        }

        /** The costs of a land's roads hold until its roads or texts change; where posts stand is free. */
        void reckon(Land land) {
            for (int r = 0; r < land.roads; r++) {
                harms[r] = harmOf(land, r);
            }
            int text = laws.lastOf(land.texts, CROSS_KEY);
            for (int r = 0; r < land.roads; r++) {
                for (int s = r + 1; s < land.roads; s++) {
                    int cost = text < 0 ? harms[r] + harms[s] : laws.answer(text, harms[r], harms[s], 0);
                    ofTwo[r][s] = within(cost, COST_MOST);
                    ofTwo[s][r] = ofTwo[r][s];
                }
            }
        }

        /** The cost of all roads that cross; if that is not below a limit, just some number that is not. */
        int sum(Land land, int way, int limit) {
            int sum = 0;
            for (int r = 0; r < land.roads && sum < limit; r++) {
                for (int s = r + 1; s < land.roads; s++) {
                    if (ofTwo[r][s] != 0 && land.meet(way, r, s)) {
                        sum += ofTwo[r][s];
                    }
                }
            }
            return sum;
        }

        int straightSumOf(Land land, int r) {
            int sum = 0;
            for (int s = 0; s < land.roads; s++) {
                if (s != r && land.meet(STRAIGHT, r, s)) {
                    sum += ofTwo[r][s];
                }
            }
            return sum;
        }
    }

    /** BEST SWAP of a land whose costs have been reckoned. */
    private static final class SwapSearch {
        int one = 0;
        int other = 0;
        int least = 0;

        /** Whether there is one: one, other, and the least cost behind it (else the cost now). */
        boolean search(Land land, Costs costs) {
            int text = costs.laws.lastOf(land.texts, SWAP_KEY);
            boolean found = false;
            least = costs.sum(land, STRAIGHT, NO_LIMIT);
            for (int a = 0; a < land.posts; a++) {
                for (int b = a + 1; b < land.posts; b++) {
                    if (text >= 0 && costs.laws.answer(text, a, b, 0) == 0) {
                        continue;
                    }
                    land.swapPosts(a, b);
                    int cost = costs.sum(land, STRAIGHT, least);
                    land.swapPosts(a, b);
                    if (cost < least) {
                        found = true;
                        one = a;
                        other = b;
                        least = cost;
                    }
                }
            }
            return found;
        }

        int pair() {
            return 10 * one + other;
        }
    }

    /** FEWEST PAGES: by trial, road by road, the lesser page first. */
    private static final class PageSearch {
        final int[] found = new int[ROADS_MOST];
        /** The roads that cross a road if on its page, and those that are on a page, as sets of bits. */
        private final int[] clashes = new int[ROADS_MOST];
        private final int[] onPage = new int[ROADS_MOST];
        private int roads = 0;

        int search(Land land) {
            roads = land.roads;
            for (int r = 0; r < roads; r++) {
                clashes[r] = clashesOf(land, r);
            }
            for (int most = 0; most < ROADS_MOST; most++) {
                Arrays.fill(onPage, 0);
                if (paint(this, 0, 0, most)) {
                    return most;
                }
            }
            return ROADS_MOST;
        }

        private static int clashesOf(Land land, int r) {
            int set = 0;
            for (int s = 0; s < land.roads; s++) {
                if (s != r && !land.shareEnd(r, s) && land.meetInLine(r, s)) {
                    set |= 1 << s;
                }
            }
            return set;
        }

        /** Whether the roads from one on can be on the pages below "most", of which some are used. */
        private static boolean paint(PageSearch search, int road, int used, int most) {
            if (road >= search.roads || road >= ROADS_MOST) {
                return true;
            }
            // Pages not used yet are all alike, and a road that none can cross is on page 0.
            int tried = search.clashes[road] == 0 ? Math.min(1, most) : Math.min(used + 1, most);
            for (int page = 0; page < tried; page++) {
                if ((search.clashes[road] & search.onPage[page]) == 0) {
                    search.found[road] = page;
                    search.onPage[page] |= 1 << road;
                    if (paint(search, road + 1, Math.max(used, page + 1), most)) {
                        return true;
                    }
                    search.onPage[page] &= ~(1 << road);
                }
            }
            return false;
        }
    }

    /** BEST LINE of a land whose costs have been reckoned. */
    private static final class LineSearch {
        final int[] found = new int[POSTS_MOST];
        int least = 0;
        private final int[] row = new int[POSTS_MOST];
        /** The posts that stand in the row, as a set of bits. */
        private int standing = 0;
        private int posts = 0;
        /** The road between two posts; -1: there is none. */
        private final int[][] between = new int[POSTS_MOST][POSTS_MOST];

        /** Only for a land with posts. */
        void search(Land land, int[][] costs) {
            posts = land.posts;
            for (int p = 0; p < posts; p++) {
                Arrays.fill(between[p], -1);
            }
            for (int r = 0; r < land.roads; r++) {
                between[land.low[r]][land.high[r]] = r;
                between[land.high[r]][land.low[r]] = r;
            }
            least = NO_LIMIT;
            row[0] = 0;
            standing = 1;
            extend(this, costs, 1, 0);
        }

        /** Goes on with a row whose roads cross for a sum so far, as long as it can be the best one. */
        private static void extend(LineSearch search, int[][] costs, int place, int sum) {
            if (place >= search.posts || place >= POSTS_MOST) {
                search.least = sum;
                System.arraycopy(search.row, 0, search.found, 0, POSTS_MOST);
                return;
            }
            for (int post = 1; post < search.posts; post++) {
                if ((search.standing >> post & 1) == 0) {
                    int more = sum + search.costOfNext(costs, place, post);
                    if (more < search.least) {
                        search.row[place] = post;
                        search.standing |= 1 << post;
                        extend(search, costs, place + 1, more);
                        search.standing &= ~(1 << post);
                    }
                }
            }
        }

        /** A road that ends here crosses those that began within it and go on behind this place. */
        private int costOfNext(int[][] costs, int place, int post) {
            int sum = 0;
            for (int start = 0; start < place; start++) {
                int ending = between[row[start]][post];
                if (ending >= 0) {
                    for (int inner = start + 1; inner < place; inner++) {
                        sum += costOfOpen(costs[ending], row[inner], post);
                    }
                }
            }
            return sum;
        }

        private int costOfOpen(int[] costs, int from, int post) {
            int sum = 0;
            for (int far = 0; far < posts; far++) {
                int open = between[from][far];
                if (open >= 0 && far != post && (standing >> far & 1) == 0) {
                    sum += costs[open];
                }
            }
            return sum;
        }
    }

    /** BEST ROW of a layer of a land whose costs have been reckoned. */
    private static final class RowSearch {
        final int[] found = new int[ROW_MOST];
        int least = 0;
        private final int[] posts = new int[ROW_MOST];
        private final int[] places = new int[ROW_MOST];
        private int size = 0;

        /** Only for a layer of no more posts than a row; leaves the land's line in some other order. */
        void search(Land land, int layer, Costs costs) {
            collect(land, layer);
            least = NO_LIMIT;
            for (int order = 0; order < ROW_ORDERS; order++) {
                for (int i = 0; i < size; i++) {
                    land.putInLine(places[i], posts[i]);
                }
                int cost = costs.sum(land, IN_LAYERS, least);
                if (cost < least) {
                    least = cost;
                    System.arraycopy(posts, 0, found, 0, ROW_MOST);
                }
                if (!nextOrder()) {
                    break;
                }
            }
        }

        /** The layer's posts by number, and its places in the line from the first on. */
        private void collect(Land land, int layer) {
            size = 0;
            for (int p = 0; p < land.posts; p++) {
                if (land.layer[p] == layer && size < ROW_MOST) {
                    posts[size] = p;
                    size++;
                }
            }
            int many = 0;
            for (int i = 0; i < land.posts; i++) {
                if (land.layer[land.line[i]] == layer && many < ROW_MOST) {
                    places[many] = i;
                    many++;
                }
            }
        }

        /** The next order of the posts, as words in a dictionary follow one another; false: it was the last. */
        private boolean nextOrder() {
            int turn = size - 2;
            for (; turn >= 0; turn--) {
                if (posts[turn] < posts[turn + 1]) {
                    break;
                }
            }
            if (turn < 0) {
                return false;
            }
            int greater = size - 1;
            for (; greater > turn + 1; greater--) {
                if (posts[greater] > posts[turn]) {
                    break;
                }
            }
            exchange(turn, greater);
            for (int i = turn + 1, j = size - 1; i < j; i++, j--) {
                exchange(i, j);
            }
            return true;
        }

        private void exchange(int i, int j) {
            int held = posts[i];
            posts[i] = posts[j];
            posts[j] = held;
        }
    }

    /** A row of shorts or floats, or a missing one; NONE stands for a float that is no number. */
    private static final class Sheet {
        int sort = MISSING;
        int size = 0;
        final int[] values = new int[PLACES_MOST];

        void become(int newSort, int newSize) {
            sort = newSort;
            size = newSize;
            Arrays.fill(values, 0);
        }

        void takeFrom(Sheet other) {
            sort = other.sort;
            size = other.size;
            System.arraycopy(other.values, 0, values, 0, PLACES_MOST);
        }

        boolean isMissing() {
            return sort == MISSING;
        }

        boolean hasPlace(int i) {
            return i >= 0 && i < size;
        }

        /** Of no places, too, the first must not be behind the end. */
        boolean hasPlaces(int first, int many) {
            return first >= 0 && many >= 0 && first <= size && many <= size - first;
        }

        boolean hasNoNumber() {
            for (int i = 0; i < size; i++) {
                if (values[i] == NONE) {
                    return true;
                }
            }
            return false;
        }

        /** Whether the places are the numbers below one, each once; only for at most as many as posts. */
        boolean isOrderOf(int numbers) {
            int seen = 0;
            for (int i = 0; i < size; i++) {
                int v = values[i];
                if (v < 0 || v >= numbers || (seen >> v & 1) == 1) {
                    return false;
                }
                seen |= 1 << v;
            }
            return size == numbers;
        }
    }

    /** What one slot holds; what is held is the slot's own, so that later changes do not reach it. */
    private static final class Slot {
        int thing = HOLDS_NOTHING;
        int kind = ROAD;
        int weight = 0;
        final Sheet row = new Sheet();
        int number = 0;

        int refusalAs(int wanted) {
            if (thing == HOLDS_NOTHING) {
                return NOTHING;
            }
            return thing == wanted ? FINE : KIND;
        }
    }
}
