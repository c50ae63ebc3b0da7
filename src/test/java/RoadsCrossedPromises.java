/** Each promise of the document by itself: ordinary calls, the edges that it names, and wrong calls. */
public final class RoadsCrossedPromises {
    private static final int BAD = RoadsCrossed.BAD, NO = RoadsCrossed.NO, FULL = RoadsCrossed.FULL, NONE = RoadsCrossed.NONE;
    private static final int NOTHING = RoadsCrossed.NOTHING, KIND = RoadsCrossed.KIND, INDEX = RoadsCrossed.INDEX, SIZE = RoadsCrossed.SIZE;
    private static final int LEAST = Integer.MIN_VALUE, MOST = Integer.MAX_VALUE;

    private static int wrong = 0;
    private static int promise = 0;
    private static int asked = 0;

    public static void main(String[] args) {
        promise = 1; newObject();
        promise = 2; post();
        promise = 3; postTold();
        promise = 4; move();
        promise = 5; layer();
        promise = 6; road();
        promise = 7; told();
        promise = 8; as();
        promise = 9; turns();
        promise = 10; set();
        promise = 11; drop();
        promise = 12; cross();
        promise = 13; straight();
        promise = 14; bound();
        promise = 15; would();
        promise = 16; best();
        promise = 17; swaps();
        promise = 18; line();
        promise = 19; at();
        promise = 20; book();
        promise = 21; pages();
        promise = 22; bestLine();
        promise = 23; layers();
        promise = 24; bestRow();
        promise = 25; deal();
        promise = 26; seed();
        promise = 27; feed();
        promise = 28; trim();
        promise = 29; text();
        textFaults();
        textNesting();
        textValues();
        promise = 30; textTold();
        promise = 31; why();
        promise = 32; sheet();
        promise = 33; mark();
        promise = 34; pour();
        promise = 35; copy();
        promise = 36; lay();
        promise = 37; ask();
        promise = 38; item();
        promise = 39; rest();
        promise = 40; tell();
        promise = 41; check();
        promise = 42; keep();
        promise = 43; back();
        promise = 44; count();
        System.out.println(asked + " answers, " + (wrong == 0 ? "all as promised" : wrong + " not as promised"));
        if (wrong != 0) {
            System.exit(1);
        }
    }

    private static void due(String what, int got, int want) {
        asked++;
        if (got != want) {
            wrong++;
            System.out.println("promise " + promise + ": " + what + " answered " + got + ", due is " + want);
        }
    }

    // ---- lands that several promises use

    /** Posts at the corners of a square, in order round it: 0 (0,0), 1 (8,0), 2 (8,8), 3 (0,8). */
    private static RoadsCrossed square() {
        RoadsCrossed x = new RoadsCrossed();
        x.post(0, 0);
        x.post(8, 0);
        x.post(8, 8);
        x.post(0, 8);
        return x;
    }

    /** A square with both diagonals: road 0 is 0-2 of weight 3, road 1 is 1-3 of weight 5. */
    private static RoadsCrossed crossedSquare() {
        RoadsCrossed x = square();
        x.road(0, 2, 3);
        x.road(0, 13, 5);
        return x;
    }

    /** So many posts that no three stand in a line. */
    private static RoadsCrossed posts(int n) {
        RoadsCrossed x = new RoadsCrossed();
        for (int p = 0; p < n; p++) {
            x.post(p, p * p);
        }
        return x;
    }

    private static RoadsCrossed allRoads(int n) {
        RoadsCrossed x = posts(n);
        for (int a = 0; a < n; a++) {
            for (int b = a + 1; b < n; b++) {
                x.road(0, 10 * a + b, 1);
            }
        }
        return x;
    }

    private static void put(RoadsCrossed x, String tape) {
        x.trim(0);
        for (int i = 0; i < tape.length(); i += 12) {
            int[] v = new int[3];
            for (int j = 0; j < 12; j++) {
                int b = i + j < tape.length() ? tape.charAt(i + j) : 'z';
                v[j / 4] |= b << 24 - j % 4 * 8;
            }
            x.feed(v[0], v[1], v[2]);
        }
        x.trim(tape.length());
    }

    private static int say(RoadsCrossed x, String tape) {
        put(x, tape);
        return x.text();
    }

    private static void row(RoadsCrossed x, int sheet, int sort, int... values) {
        x.sheet(sheet, sort, values.length);
        for (int i = 0; i < values.length; i++) {
            x.mark(sheet, i, values[i]);
        }
    }

    // ---- the promises

    private static void newObject() {
        RoadsCrossed x = new RoadsCrossed();
        int[] counts = {0, 0, 0, 0, 0, 1};
        for (int what = 0; what < counts.length; what++) {
            due("count " + what + " of a new object", x.count(what), counts[what]);
        }
        for (int i = 0; i < 4; i++) {
            due("a sheet of a new object", x.pour(i), NOTHING);
        }
        for (int i = 0; i < 5; i++) {
            due("a slot of a new object", x.lay(i, 0, 0), 0);
        }
        due("back of a new object", x.back(), NO);
        due("why of a new object", x.why(0), NONE);
        due("a place of the line of a new object", x.at(0), BAD);
    }

    private static void post() {
        RoadsCrossed x = new RoadsCrossed();
        due("post", x.post(0, 0), 0);
        due("post at the far end", x.post(99, 99), 1);
        due("post with x and y the other way round", x.post(99, 0), 2);
        due("post there again", x.post(99, 99), NO);
        due("post where the first is", x.post(0, 0), NO);
        due("x below", x.post(-1, 0), BAD);
        due("x above", x.post(100, 5), BAD);
        due("y below", x.post(3, -1), BAD);
        due("y above", x.post(3, 100), BAD);
        due("wild", x.post(LEAST, MOST), BAD);
        for (int p = 3; p < 8; p++) {
            due("post", x.post(p, p), p);
        }
        due("ninth post", x.post(50, 50), FULL);
        due("ninth post at a post's place", x.post(7, 7), NO);
        due("ninth post at no place", x.post(7, 100), BAD);
        due("posts", x.count(0), 8);
    }

    private static void postTold() {
        RoadsCrossed x = crossedSquare();
        x.road(0, 1, 1);
        x.layer(1, 3);
        row(x, 0, 0, 3, 1, 0, 2);
        x.line(0);
        int[] told = {8, 0, 3, 1, 2};
        for (int what = 0; what < told.length; what++) {
            due("postTold(1, " + what + ")", x.postTold(1, what), told[what]);
        }
        due("place of post 3", x.postTold(3, 3), 0);
        due("layer at first", x.postTold(3, 2), 0);
        RoadsCrossed star = posts(5);
        star.road(0, 20, 1);
        star.road(0, 21, 1);
        star.road(0, 23, 1);
        star.road(0, 3, 1);
        int[] from = {2, 1, 3, 2, 0};
        for (int p = 0; p < 5; p++) {
            due("roads from post " + p, star.postTold(p, 4), from[p]);
        }
        due("what above", x.postTold(1, 5), BAD);
        due("what below", x.postTold(1, -1), BAD);
        due("post above", x.postTold(4, 0), BAD);
        due("post below", x.postTold(-1, 0), BAD);
        due("wild", x.postTold(MOST, LEAST), BAD);
    }

    private static void move() {
        RoadsCrossed x = square();
        due("move", x.move(2, 4, 5), 1);
        due("x then", x.postTold(2, 0), 4);
        due("y then", x.postTold(2, 1), 5);
        due("move there again", x.move(2, 4, 5), 0);
        due("where another one is", x.move(2, 0, 0), NO);
        due("x after a refusal", x.postTold(2, 0), 4);
        due("back to the free place", x.move(2, 8, 8), 1);
        due("to the far end", x.move(2, 99, 99), 1);
        due("no such post", x.move(4, 1, 1), BAD);
        due("post below", x.move(-1, 1, 1), BAD);
        due("no such place", x.move(2, 100, 0), BAD);
        due("no such place", x.move(2, 0, -1), BAD);
    }

    private static void layer() {
        RoadsCrossed x = square();
        due("layer", x.layer(2, 3), 0);
        due("layer again", x.layer(2, 1), 3);
        due("layer v above", x.layer(2, 4), BAD);
        due("layer v below", x.layer(2, -1), BAD);
        due("layer of no post", x.layer(4, 1), BAD);
        due("layer of no post", x.layer(-1, 1), BAD);
        due("layer then", x.postTold(2, 2), 1);
    }

    private static void road() {
        RoadsCrossed x = posts(8);
        due("road", x.road(3, 52, 9), 0);
        due("the lesser post", x.told(0, 1), 2);
        due("the greater post", x.told(0, 2), 5);
        due("the same", x.road(0, 52, 9), NO);
        due("the other way round", x.road(0, 25, 9), NO);
        due("kind above", x.road(6, 1, 1), BAD);
        due("kind below", x.road(-1, 1, 1), BAD);
        due("one post twice", x.road(0, 0, 1), BAD);
        due("one post twice", x.road(0, 77, 1), BAD);
        due("post above", x.road(0, 8, 1), BAD);
        due("post above", x.road(0, 80, 1), BAD);
        due("ends above", x.road(0, 101, 1), BAD);
        due("ends below", x.road(0, -1, 1), BAD);
        due("ends below", x.road(0, -12, 1), BAD);
        due("ends wild", x.road(0, LEAST, 1), BAD);
        due("weight above", x.road(0, 1, 10), BAD);
        due("weight below", x.road(0, 1, 0), BAD);
        due("wrong weight where there is one", x.road(0, 52, 0), BAD);
        int many = 1;
        for (int a = 0; a < 8 && many < 18; a++) {
            for (int b = a + 1; b < 8 && many < 18; b++) {
                if (10 * a + b != 25) {
                    due("road", x.road(5, 10 * b + a, 1), many);
                    many++;
                }
            }
        }
        due("nineteenth road", x.road(0, 67, 1), FULL);
        due("nineteenth road where there is one", x.road(0, 52, 1), NO);
        due("nineteenth road, wrong", x.road(0, 66, 1), BAD);
        RoadsCrossed few = posts(2);
        due("a road to a post that is not there yet", few.road(0, 2, 1), BAD);
        due("a road on the way between two posts", few.road(0, 10, 1), 0);
    }

    private static void told() {
        RoadsCrossed x = posts(4);
        x.road(3, 31, 4);
        x.set(0, 1, 2);
        int[] told = {3, 1, 3, 4, 2, 12, 7};
        for (int what = 0; what < told.length; what++) {
            due("told(0, " + what + ")", x.told(0, what), told[what]);
        }
        due("what above", x.told(0, 7), BAD);
        due("what below", x.told(0, -1), BAD);
        due("no road", x.told(1, 0), BAD);
        due("no road", x.told(-1, 0), BAD);
        int[] harms = {5, 7, 3, 14, 8, 0};
        int[] worths = {5, 10, 2, 5, 2, 20};
        x.set(0, 0, 5);
        for (int kind = 0; kind < 6; kind++) {
            x.turns(0, kind);
            due("harm of kind " + kind, x.told(0, 5), harms[kind]);
            due("worth of kind " + kind, x.told(0, 6), worths[kind]);
        }
        // The text's number is held within 0 .. 99 before the kind adds to it.
        say(x, "harm 100 + w");
        int[] high = {99, 101, 50, 202, 55, 0};
        for (int kind = 0; kind < 6; kind++) {
            x.turns(0, kind);
            due("harm of kind " + kind + ", held", x.told(0, 5), high[kind]);
        }
        say(x, "harm 0 - w");
        int[] low = {0, 2, 0, 4, 5, 0};
        for (int kind = 0; kind < 6; kind++) {
            x.turns(0, kind);
            due("harm of kind " + kind + ", held from below", x.told(0, 5), low[kind]);
        }
    }

    private static void as() {
        RoadsCrossed x = posts(4);
        x.road(0, 1, 7);
        String[] kinds = {"0", "01", "02", "013", "024", "05"};
        for (int kind = 0; kind < 6; kind++) {
            x.turns(0, kind);
            for (int of = 0; of < 6; of++) {
                due("kind " + kind + " as " + of, x.as(0, of), kinds[kind].indexOf('0' + of) >= 0 ? 7 : KIND);
            }
        }
        due("no road", x.as(1, 0), BAD);
        due("no road", x.as(-1, 0), BAD);
        due("no kind", x.as(0, 6), BAD);
        due("no kind", x.as(0, -1), BAD);
    }

    private static void turns() {
        RoadsCrossed x = posts(3);
        x.road(4, 1, 7);
        due("turns", x.turns(0, 5), 4);
        due("turns to the same", x.turns(0, 5), 5);
        due("turns wrong", x.turns(0, 6), BAD);
        due("turns wrong", x.turns(0, -1), BAD);
        due("turns no road", x.turns(1, 1), BAD);
        due("turns no road", x.turns(-1, 1), BAD);
        due("kind then", x.told(0, 0), 5);
    }

    private static void set() {
        RoadsCrossed x = posts(3);
        x.road(0, 1, 7);
        due("weight", x.set(0, 0, 9), 7);
        due("weight", x.set(0, 0, 1), 9);
        due("weight above", x.set(0, 0, 10), BAD);
        due("weight below", x.set(0, 0, 0), BAD);
        due("page", x.set(0, 1, 3), 0);
        due("page", x.set(0, 1, 0), 3);
        due("page above", x.set(0, 1, 4), BAD);
        due("page below", x.set(0, 1, -1), BAD);
        due("what", x.set(0, 2, 1), BAD);
        due("what", x.set(0, -1, 1), BAD);
        due("no road", x.set(1, 0, 1), BAD);
        due("no road", x.set(-1, 1, 1), BAD);
        due("weight then", x.told(0, 3), 1);
        due("page then", x.told(0, 4), 0);
    }

    private static void drop() {
        RoadsCrossed x = posts(4);
        x.road(1, 1, 1);
        x.road(2, 2, 2);
        x.road(3, 23, 3);
        x.set(2, 1, 3);
        due("no road", x.drop(3), BAD);
        due("no road", x.drop(-1), BAD);
        due("drop", x.drop(0), 2);
        int[] first = {2, 0, 2, 2, 0};
        int[] second = {3, 2, 3, 3, 3};
        for (int what = 0; what < 5; what++) {
            due("told(0, " + what + ")", x.told(0, what), first[what]);
            due("told(1, " + what + ")", x.told(1, what), second[what]);
        }
        due("the last goes", x.drop(1), 1);
        due("the only one goes", x.drop(0), 0);
        due("none is there", x.drop(0), BAD);
        due("where one was", x.road(0, 32, 1), 0);
        due("a new road is on page 0", x.told(0, 4), 0);
        due("where one on page 3 was", x.road(0, 31, 1), 1);
        due("a new road is on page 0", x.told(1, 4), 0);
    }

    private static void cross() {
        RoadsCrossed x = crossedSquare();
        due("diagonals", x.cross(0, 1), 1);
        due("diagonals the other way round", x.cross(1, 0), 1);
        due("a road and itself", x.cross(0, 0), BAD);
        due("no road", x.cross(0, 2), BAD);
        due("no road", x.cross(-1, 0), BAD);
        x.road(0, 1, 1);
        due("a post in common", x.cross(0, 2), 0);
        x.move(3, 4, 4);
        due("an end within a road", x.cross(0, 1), 1);
        x.move(3, 5, 4);
        due("an end right ahead of a road", x.cross(0, 1), 0);
        x.move(3, 4, 4);
        x.move(1, 6, 6);
        due("within, on one straight line", x.cross(0, 1), 1);
        x.move(1, 50, 50);
        due("over an end, on one straight line", x.cross(0, 1), 1);
        x.move(3, 9, 9);
        due("behind, on one straight line", x.cross(0, 1), 0);
        x.move(1, 8, 0);
        x.move(3, 9, 1);
        due("alongside", x.cross(0, 1), 0);
        RoadsCrossed upright = new RoadsCrossed();
        upright.post(5, 0);
        upright.post(5, 4);
        upright.post(5, 3);
        upright.post(5, 9);
        upright.road(0, 1, 1);
        upright.road(0, 23, 1);
        due("over an end, upright", upright.cross(0, 1), 1);
        upright.move(2, 5, 5);
        due("behind, upright", upright.cross(0, 1), 0);
        alongOneLine();
        RoadsCrossed far = new RoadsCrossed();
        far.post(0, 0);
        far.post(99, 98);
        far.post(98, 97);
        far.post(99, 97);
        far.road(0, 1, 1);
        far.road(0, 23, 1);
        due("close by at the far end", far.cross(0, 1), 0);
        far.move(3, 97, 97);
        due("right over it at the far end", far.cross(0, 1), 1);
    }

    /** Two roads on one straight line, their four ends in every order along it. */
    private static void alongOneLine() {
        for (int orders = 0; orders < 256; orders++) {
            int a = orders & 3;
            int b = orders >> 2 & 3;
            int c = orders >> 4 & 3;
            int d = orders >> 6;
            if ((1 << a | 1 << b | 1 << c | 1 << d) != 15) {
                continue;
            }
            boolean apart = Math.max(a, b) < Math.min(c, d) || Math.max(c, d) < Math.min(a, b);
            for (int way = 0; way < 3; way++) {
                RoadsCrossed x = new RoadsCrossed();
                for (int step : new int[] {a, b, c, d}) {
                    x.post(way == 0 ? 5 : 7 * step, way == 1 ? 5 : 50 - 3 * step);
                }
                x.road(0, 1, 1);
                x.road(0, 23, 1);
                due("along one line, " + a + b + c + d, x.cross(0, 1), apart ? 0 : 1);
            }
        }
    }

    private static void straight() {
        RoadsCrossed x = crossedSquare();
        due("pairs", x.straight(0), 1);
        due("cost", x.straight(1), 8);
        due("the dearest, of two the first", x.straight(2), 0);
        due("what above", x.straight(3), BAD);
        due("what below", x.straight(-1), BAD);
        x.turns(0, 5);
        due("a bridge harms nothing", x.straight(1), 5);
        due("but crosses", x.straight(0), 1);
        x.post(1, 2);
        x.post(3, 1);
        x.road(0, 45, 9);
        due("pairs", x.straight(0), 2);
        due("cost", x.straight(1), 14);
        due("the dearest", x.straight(2), 0);
        x.road(0, 24, 1);
        due("the dearest of three", x.straight(2), 0);
        say(x, "cross q - p");
        // Road 0 (harm 0) is crossed by 1 (harm 5) and 2 (harm 9); road 3 (harm 1) crosses 1 (5).
        due("p is of the lesser number", x.straight(1), 14);
        say(x, "cross p - q");
        due("held within 0", x.straight(1), 4);
        due("the dearest by its own cost", x.straight(2), 1);
        say(x, "cross 9999");
        due("held within 999", x.straight(1), 999 * 3);
        say(x, "cross 0");
        due("all cost nothing: the first of all", x.straight(2), 0);
        RoadsCrossed none = square();
        none.road(0, 1, 1);
        none.road(0, 23, 1);
        none.road(0, 2, 1);
        due("none cross", none.straight(2), NONE);
        due("none cross", none.straight(1), 0);
        RoadsCrossed later = square();
        later.road(0, 1, 9);
        later.road(0, 2, 1);
        later.road(0, 13, 1);
        due("not the first, which crosses none", later.straight(2), 1);
        say(later, "cross 0");
        due("the first, which crosses none", later.straight(2), 0);
        RoadsCrossed three = crossedSquare();
        three.set(0, 0, 9);
        three.set(1, 0, 1);
        three.post(7, 0);
        three.post(8, 1);
        three.road(0, 45, 1);
        due("the one that crosses both others", three.straight(2), 1);
        three.turns(0, 5);
        due("a cost of 1 counts", three.straight(1), 3);
    }

    private static void bound() {
        due("bound without posts", new RoadsCrossed().bound(), 0);
        due("two posts, one road", allRoads(2).bound(), 0);
        due("all roads of three posts", allRoads(3).bound(), 0);
        due("all roads of five posts", allRoads(5).bound(), 1);
        due("all roads of six posts", allRoads(6).bound(), 3);
        RoadsCrossed seven = allRoads(7);
        due("eighteen roads of seven posts", seven.bound(), 3);
        RoadsCrossed x = posts(6);
        int many = 0;
        for (int a = 0; a < 3; a++) {
            for (int b = 3; b < 6; b++) {
                x.road(0, 10 * a + b, 1);
                many++;
            }
        }
        due("three to three posts: " + many + " roads", x.bound(), 1);
        x.road(0, 1, 1);
        due("a ring of three", x.bound(), 0);
        x.drop(9);
        x.post(90, 90);
        due("a post without roads", x.bound(), 0);
        RoadsCrossed four = posts(8);
        for (int a = 0; a < 4; a++) {
            for (int b = 4; b < 8; b++) {
                four.road(0, 10 * a + b, 1);
            }
        }
        due("four to four posts", four.bound(), 4);
        RoadsCrossed two = posts(2);
        two.road(0, 1, 1);
        due("fewer than three posts, two-sided", two.bound(), 0);
        RoadsCrossed odd = posts(5);
        for (int p = 0; p < 5; p++) {
            odd.road(0, 10 * p + (p + 1) % 5, 1);
        }
        due("a ring of five", odd.bound(), 0);
    }

    private static void would() {
        RoadsCrossed x = crossedSquare();
        due("would(0, 1)", x.would(0, 1), -8);
        due("would(1, 0)", x.would(1, 0), -8);
        due("would(0, 2)", x.would(0, 2), 0);
        due("nothing changes", x.straight(1), 8);
        due("nothing changes", x.postTold(0, 0), 0);
        due("one post twice", x.would(1, 1), BAD);
        due("no post", x.would(0, 4), BAD);
        due("no post", x.would(-1, 0), BAD);
        say(x, "swap 0");
        due("also if it may not be", x.would(0, 1), -8);
        x.swaps(1);
        RoadsCrossed y = square();
        y.road(0, 1, 3);
        y.road(0, 23, 5);
        due("more behind it", y.would(1, 2), 8);
    }

    private static void best() {
        RoadsCrossed x = crossedSquare();
        due("the first of all", x.best(0), 1);
        due("the cost behind it", x.best(1), 0);
        due("what", x.best(2), BAD);
        due("what", x.best(-1), BAD);
        due("nothing changes", x.straight(1), 8);
        say(x, "swap a > 0");
        due("may not be with 0", x.best(0), 12);
        say(x, "swap a = 2 & b = 3");
        due("just one may be", x.best(0), 23);
        say(x, "swap b - a - 2");
        due("not 0 is yes", x.best(0), 1);
        say(x, "swap (a = 0) & (b = 2)");
        due("no better one may be", x.best(0), NONE);
        due("no better one may be", x.best(1), NONE);
        say(x, "swap 0");
        due("none may be", x.best(0), NONE);
        RoadsCrossed still = square();
        still.road(0, 1, 1);
        due("none is less than now", still.best(1), NONE);
        due("no posts", new RoadsCrossed().best(0), NONE);
    }

    private static void swaps() {
        RoadsCrossed x = crossedSquare();
        due("n below", x.swaps(0), BAD);
        due("n above", x.swaps(31), BAD);
        due("n wild", x.swaps(LEAST), BAD);
        x.layer(0, 2);
        due("swaps", x.swaps(30), 1);
        due("x of 0", x.postTold(0, 0), 8);
        due("x of 1", x.postTold(1, 0), 0);
        due("the layer stays", x.postTold(0, 2), 2);
        due("the line stays", x.at(0), 0);
        due("none more", x.swaps(1), 0);
        RoadsCrossed y = posts(8);
        y.seed(5);
        y.deal(1, 20);
        RoadsCrossed steps = posts(8);
        steps.seed(5);
        steps.deal(1, 20);
        int done = 0;
        for (int i = 0; i < 30; i++) {
            int one = steps.best(0);
            if (one == NONE) {
                break;
            }
            int behind = steps.best(1);
            int by = steps.would(one / 10, one % 10);
            due("would as best", steps.straight(1) + by, behind);
            due("one swap", steps.swaps(1), 1);
            due("the cost behind it", steps.straight(1), behind);
            done++;
        }
        due("all at once", y.swaps(30), done);
        due("the cost behind all", y.straight(1), steps.straight(1));
        due("more than one step", done > 1 ? 1 : 0, 1);
    }

    private static void line() {
        RoadsCrossed x = posts(3);
        due("no such sheet", x.line(4), BAD);
        due("no such sheet", x.line(-1), BAD);
        due("missing", x.line(0), NOTHING);
        row(x, 0, 0, 2, 0);
        due("fewer", x.line(0), SIZE);
        row(x, 0, 0, 2, 0, 1, 3);
        due("more", x.line(0), SIZE);
        row(x, 1, 1, NONE, 0);
        due("fewer, and no number", x.line(1), SIZE);
        row(x, 1, 1, NONE, 0, 77);
        due("no number, and no post", x.line(1), KIND);
        row(x, 1, 1, 0, 1, 3);
        due("no post", x.line(1), BAD);
        row(x, 1, 1, 0, 1, -1);
        due("no post", x.line(1), BAD);
        row(x, 1, 1, 0, 1, 1);
        due("one twice", x.line(1), BAD);
        row(x, 1, 1, 3, 1, 2);
        due("the first is no post", x.line(1), BAD);
        due("the line as it was", x.at(2), 2);
        row(x, 1, 1, 2, 0, 1);
        due("line", x.line(1), 3);
        due("line then", x.at(0) * 100 + x.at(1) * 10 + x.at(2), 201);
        due("place of 2", x.postTold(2, 3), 0);
        x.post(50, 50);
        due("a new post is behind all", x.at(3), 3);
        due("and the others as they were", x.at(0), 2);
        RoadsCrossed none = new RoadsCrossed();
        none.sheet(3, 0, 0);
        due("no posts, no places", none.line(3), 0);
    }

    private static void at() {
        RoadsCrossed x = posts(3);
        row(x, 0, 0, 1, 2, 0);
        x.line(0);
        due("at(0)", x.at(0), 1);
        due("at(1)", x.at(1), 2);
        due("at(2)", x.at(2), 0);
        due("no place", x.at(3), BAD);
        due("no place", x.at(-1), BAD);
        due("no place", x.at(MOST), BAD);
    }

    private static void book() {
        RoadsCrossed x = crossedSquare();
        due("pairs", x.book(0), 1);
        due("cost", x.book(1), 8);
        due("what", x.book(2), BAD);
        due("what", x.book(-1), BAD);
        x.set(0, 1, 2);
        due("on unlike pages", x.book(0), 0);
        x.set(1, 1, 2);
        due("on one page", x.book(1), 8);
        row(x, 0, 0, 0, 2, 1, 3);
        x.line(0);
        due("side by side", x.book(0), 0);
        row(x, 0, 0, 0, 1, 3, 2);
        x.line(0);
        due("one within the other", x.book(0), 0);
        row(x, 0, 0, 1, 2, 3, 0);
        x.line(0);
        due("once more", x.book(0), 1);
        x.road(0, 1, 1);
        x.set(2, 1, 2);
        due("a post in common", x.book(0), 1);
    }

    private static void pages() {
        RoadsCrossed x = crossedSquare();
        due("two", x.pages(-1), 2);
        due("the first", x.pages(0), 0);
        due("the other", x.pages(1), 1);
        due("no road", x.pages(2), BAD);
        due("below", x.pages(-2), BAD);
        due("nothing changes", x.told(1, 4), 0);
        x.set(0, 1, 3);
        due("pages now are of no matter", x.pages(0), 0);
        x.drop(1);
        due("one", x.pages(-1), 1);
        due("none", new RoadsCrossed().pages(-1), 0);
        due("none", new RoadsCrossed().pages(0), BAD);
        RoadsCrossed four = posts(8);
        four.road(0, 4, 1);
        four.road(0, 15, 1);
        four.road(0, 26, 1);
        four.road(0, 37, 1);
        due("four", four.pages(-1), 4);
        due("the last of four", four.pages(3), 3);
        row(four, 0, 0, 0, 4, 1, 5, 2, 6, 3, 7);
        four.line(0);
        due("along another line", four.pages(-1), 1);
        // 0-2, 1-3, 2-4, 3-5, 1-4 and again 0-2: each crosses the next, a ring of five.
        RoadsCrossed ring = posts(6);
        ring.road(0, 2, 1);
        ring.road(0, 35, 1);
        ring.road(0, 13, 1);
        ring.road(0, 24, 1);
        ring.road(0, 14, 1);
        due("fewest", ring.pages(-1), 3);
        int[] first = {0, 0, 1, 2, 1};
        for (int r = 0; r < 5; r++) {
            due("page of road " + r, ring.pages(r), first[r]);
        }
        // 0-2, 1-4, 3-6, 5-7: each crosses the next; 5-7, told second, must give way to page 1.
        RoadsCrossed chain = posts(8);
        chain.road(0, 2, 1);
        chain.road(0, 57, 1);
        chain.road(0, 14, 1);
        chain.road(0, 36, 1);
        chain.road(0, 1, 1);
        due("fewest", chain.pages(-1), 2);
        int[] ways = {0, 1, 1, 0, 0};
        for (int r = 0; r < 5; r++) {
            due("page of road " + r, chain.pages(r), ways[r]);
        }
        chain.drop(1);
        int[] without = {0, 1, 0, 0};
        for (int r = 0; r < 4; r++) {
            due("page of road " + r, chain.pages(r), without[r]);
        }
    }

    private static void bestLine() {
        RoadsCrossed x = crossedSquare();
        due("cost", x.bestLine(-1), 0);
        int[] row = {0, 1, 3, 2};
        for (int i = 0; i < 4; i++) {
            due("place " + i, x.bestLine(i), row[i]);
        }
        due("no place", x.bestLine(4), NONE);
        due("below", x.bestLine(-2), BAD);
        due("nothing changes", x.at(2), 2);
        due("no posts", new RoadsCrossed().bestLine(-1), NO);
        due("no posts", new RoadsCrossed().bestLine(7), NO);
        due("no posts, below", new RoadsCrossed().bestLine(-2), BAD);
        due("one post", posts(1).bestLine(0), 0);
        due("one post", posts(1).bestLine(-1), 0);
        RoadsCrossed five = allRoads(5);
        due("all roads of five posts", five.bestLine(-1), 10);
        five.set(0, 0, 9);
        due("pages are of no matter", five.set(0, 1, 3), 0);
        due("0 and 1 side by side", five.bestLine(-1), 10);
        five.turns(5, 5);
        say(five, "cross p * q");
        due("a bridge across", five.bestLine(-1), 3);
        RoadsCrossed eight = posts(8);
        eight.seed(7);
        eight.deal(1, 20);
        int least = eight.bestLine(-1);
        eight.sheet(0, 0, 8);
        for (int i = 0; i < 8; i++) {
            eight.mark(0, i, eight.bestLine(i));
        }
        due("the best line can be", eight.line(0), 8);
        due("and has that cost", eight.book(1), least);
    }

    private static void layers() {
        RoadsCrossed x = posts(8);
        for (int p = 0; p < 8; p++) {
            x.layer(p, p / 2);
        }
        x.road(0, 3, 2);
        x.road(0, 12, 3);
        due("pairs", x.layers(0), 1);
        due("cost", x.layers(1), 5);
        due("what", x.layers(2), BAD);
        due("what", x.layers(-1), BAD);
        x.road(0, 25, 1);
        x.road(0, 34, 4);
        due("two and two", x.layers(0), 2);
        due("cost of both", x.layers(1), 10);
        x.road(0, 1, 1);
        x.road(0, 6, 1);
        x.road(0, 17, 1);
        due("within a layer or past one they do not", x.layers(0), 2);
        x.road(0, 2, 1);
        due("a post in common", x.layers(0), 2);
        row(x, 0, 0, 1, 0, 2, 3, 4, 5, 6, 7);
        x.line(0);
        due("along another line", x.layers(0), 1);
        RoadsCrossed down = posts(4);
        down.layer(0, 1);
        down.layer(1, 1);
        down.road(0, 3, 1);
        down.road(0, 12, 1);
        due("the lesser posts below", down.layers(0), 1);
        RoadsCrossed mixed = posts(4);
        mixed.layer(1, 1);
        mixed.layer(3, 1);
        mixed.road(0, 3, 1);
        mixed.road(0, 12, 1);
        due("one road from the lesser post down, one up", mixed.layers(0), 1);
        row(mixed, 0, 0, 0, 3, 2, 1);
        mixed.line(0);
        due("the same along another line", mixed.layers(0), 0);
        RoadsCrossed gap = posts(4);
        gap.layer(2, 2);
        gap.layer(3, 2);
        gap.road(0, 3, 1);
        gap.road(0, 12, 1);
        due("layers that are not one behind the other", gap.layers(0), 0);
        gap.layer(0, 3);
        gap.layer(1, 1);
        due("not the same l", gap.layers(0), 0);
    }

    private static void bestRow() {
        RoadsCrossed x = posts(6);
        for (int p = 3; p < 6; p++) {
            x.layer(p, 1);
            x.road(0, 10 * (5 - p) + p, p);
        }
        due("cost now", x.layers(1), 24);
        due("cost", x.bestRow(0, -1), 0);
        int[] row = {2, 1, 0};
        for (int i = 0; i < 3; i++) {
            due("place " + i, x.bestRow(0, i), row[i]);
        }
        due("of the other layer", x.bestRow(1, 0), 5);
        due("no place", x.bestRow(0, 3), NONE);
        due("a layer without posts", x.bestRow(3, -1), 24);
        due("a layer without posts", x.bestRow(3, 0), NONE);
        due("layer above", x.bestRow(4, -1), BAD);
        due("layer below", x.bestRow(-1, -1), BAD);
        due("what below", x.bestRow(0, -2), BAD);
        due("nothing changes", x.layers(1), 24);
        due("nothing changes", x.at(0), 0);
        RoadsCrossed six = posts(6);
        due("six in a layer", six.bestRow(0, -1), NO);
        due("six in a layer", six.bestRow(0, 9), NO);
        due("six in a layer, below", six.bestRow(0, -2), BAD);
        six.layer(5, 1);
        due("five in a layer", six.bestRow(0, -1), 0);
        due("the first of several", six.bestRow(0, 4), 4);
        row(six, 0, 0, 4, 3, 5, 2, 1, 0);
        six.line(0);
        due("the first of several, whatever the line", six.bestRow(0, 0), 0);
        RoadsCrossed four = posts(8);
        int[] order = {2, 0, 3, 1};
        for (int p = 4; p < 8; p++) {
            four.layer(p, 1);
            four.road(0, 10 * p + order[p - 4], 1);
        }
        row(four, 0, 0, 3, 4, 1, 5, 0, 6, 7, 2);
        four.line(0);
        due("just one order is the best", four.bestRow(0, -1), 0);
        for (int i = 0; i < 4; i++) {
            due("place " + i, four.bestRow(0, i), order[i]);
        }
        due("place 2 of the other layer", four.bestRow(1, 2), 5);
        RoadsCrossed five = posts(8);
        five.layer(5, 1);
        five.layer(6, 1);
        five.layer(7, 1);
        int[] ends = {7, 6, 5, 5, 5};
        for (int p = 0; p < 5; p++) {
            five.road(0, 10 * p + ends[p], 1);
        }
        int[] last = {2, 3, 4, 1, 0};
        for (int i = 0; i < 5; i++) {
            due("place " + i + " of five", five.bestRow(0, i), last[i]);
        }
        // 1 stands in the line between the posts of layer 0, so their places are not side by side.
        RoadsCrossed gap = posts(4);
        gap.layer(1, 1);
        gap.layer(3, 1);
        gap.road(0, 3, 1);
        gap.road(0, 12, 1);
        due("places with others between", gap.bestRow(0, 0), 2);
        due("places with others between", gap.bestRow(0, -1), 0);
    }

    private static void deal() {
        RoadsCrossed x = new RoadsCrossed();
        due("what", x.deal(2, 1), BAD);
        due("what", x.deal(-1, 1), BAD);
        due("n", x.deal(0, 0), BAD);
        due("n", x.deal(0, 21), BAD);
        due("roads without posts", x.deal(1, 1), NO);
        due("roads without posts, n", x.deal(1, 21), BAD);
        due("a refusal draws nothing", x.count(5), 1);
        due("a post", x.deal(0, 1), 1);
        int z = 1 * 1103515245 + 12345;
        due("x", x.postTold(0, 0), (z >>> 8) % 100);
        z = z * 1103515245 + 12345;
        due("y", x.postTold(0, 1), (z >>> 8) % 100);
        due("z", x.count(5), z);
        due("a road to itself", x.deal(1, 3), 0);
        for (int i = 0; i < 6; i++) {
            z = z * 1103515245 + 12345;
        }
        due("two draws each", x.count(5), z);
        due("posts", x.deal(0, 20), 7);
        for (int i = 0; i < 40; i++) {
            z = z * 1103515245 + 12345;
        }
        due("two draws each, also when full", x.count(5), z);
        x.seed(99);
        z = 99 * 1103515245 + 12345;
        int one = (z >>> 8) % 8;
        z = z * 1103515245 + 12345;
        int other = (z >>> 8) % 8;
        due("unlike ends", one == other ? 0 : 1, 1);
        due("a road", x.deal(1, 1), 1);
        z = z * 1103515245 + 12345;
        due("the lesser post", x.told(0, 1), Math.min(one, other));
        due("the greater post", x.told(0, 2), Math.max(one, other));
        due("weight", x.told(0, 3), 1 + (z >>> 8) % 9);
        due("kind", x.told(0, 0), 0);
        due("three draws", x.count(5), z);
        x.seed(99);
        due("there is one", x.deal(1, 1), 0);
        int came = 1;
        for (int i = 0; i < 20; i++) {
            came += x.deal(1, 20);
        }
        due("roads in all", came, 18);
        due("roads in all", x.count(1), 18);
    }

    private static void seed() {
        RoadsCrossed x = new RoadsCrossed();
        due("seed", x.seed(LEAST), 1);
        due("seed", x.seed(-7), LEAST);
        due("z", x.count(5), -7);
        due("a draw of z below 0", x.deal(0, 1), 1);
        due("x", x.postTold(0, 0), (-7 * 1103515245 + 12345 >>> 8) % 100);
    }

    private static void feed() {
        RoadsCrossed x = new RoadsCrossed();
        for (int i = 1; i <= 8; i++) {
            due("feed", x.feed(0, -1, i), 12 * i);
        }
        due("more than 96", x.feed(0, 0, 0), FULL);
        due("as it was", x.count(4), 96);
        x.trim(85);
        due("97 bytes", x.feed(0, 0, 0), FULL);
        x.trim(84);
        due("96 bytes", x.feed(0, 0, 0), 96);
        x.trim(0);
        // "swap a=1" as numbers: the highest byte first.
        due("feed", x.feed(0x73776170, 0x20613d31, 0x20202020), 12);
        due("text", x.text(), 0);
        due("used up", x.count(4), 0);
    }

    private static void trim() {
        RoadsCrossed x = new RoadsCrossed();
        due("nothing to trim", x.trim(0), 0);
        due("more than there is", x.trim(1), BAD);
        put(x, "harm 12 zzz");
        due("below", x.trim(-1), BAD);
        due("more than there is", x.trim(12), BAD);
        due("all", x.trim(11), 11);
        due("trim", x.trim(7), 7);
        due("bytes", x.count(4), 7);
        due("text", x.text(), 0);
    }

    private static void text() {
        RoadsCrossed x = new RoadsCrossed();
        due("harm", say(x, "harm w+a*b"), 0);
        due("cross", say(x, "  cross   p/q  "), 1);
        due("swap", say(x, "swap!a&b"), 2);
        due("a bracket behind the key", say(x, "swap(a)"), 3);
        due("a number of 4 digits", say(x, "harm 0009"), 4);
        due("a fault", say(x, "harm"), -104);
        due("used up", x.count(4), 0);
        due("no text", x.count(2), 5);
        for (int i = 5; i < 14; i++) {
            due("text", say(x, "harm w"), i);
        }
        due("a fault stands first", say(x, "harm x"), -105);
        due("fifteenth", say(x, "harm w"), FULL);
        due("used up, too", x.count(4), 0);
        due("texts", x.count(2), 14);
        StringBuilder longest = new StringBuilder("cross p");
        while (longest.length() < 95) {
            longest.append("+q");
        }
        RoadsCrossed y = new RoadsCrossed();
        due("95 bytes", say(y, longest.toString()), 0);
        due("96 bytes", say(y, longest + " "), 1);
        due("96 bytes, the end too soon", say(y, longest + "+"), -196);
        due("names", y.textTold(1, 1), 45);
    }

    private static void textFaults() {
        String[] texts = {
            "", "0", "   ", "3", "harm", "4", "harm ", "5", "harms w", "0", "barm w", "0", "closs p", "0", "Harm w", "0", "har", "0", "harm w w", "7",
            "harm5", "4", "harm 5w", "6", "harm w5", "6", "harm 12345", "5", "harm 1+00001", "7", "harm wa", "5", "harm p", "5",
            "cross w", "6", "cross a", "6", "swap w", "5", "swap q", "5", "harm -1", "5", "harm 1+", "7", "harm 1++1", "7",
            "harm 1<2<3", "8", "harm 1=2>3", "8", "harm (1<2)=(2<3)", "-", "harm 1<2&3=4|5>6", "-", "harm 1&&1", "7",
            "harm (1", "7", "harm (1))", "8", "harm )", "5", "harm ()", "6", "harm 1!", "6", "harm !", "6", "harm !!1", "-",
            "harm 1 (2)", "7", "harm (1)(2)", "8", "harm (1)2", "8", "harm *1", "5", "harm 1\t", "6", "harm 1;", "6", "harm 1 harm", "7",
            "harm 1 | ", "9", "harm\u00001", "4", "harm 1\u00ff", "6", "harm 12 34", "8", " harm  w  ", "-", "harm w-1-1", "-",
            "harm 1<", "7", "harm 1 <  )", "10", "harm W", "5", "harm 1,2", "6", "cross\n", "5", "swap a b", "7", "12", "0",
            "harm1", "4", "harm harm", "5", "(harm 1)", "0", "harm (1<2<3)", "9", "harm !(1", "8", "harm (!1", "8"};
        for (int i = 0; i < texts.length; i += 2) {
            int want = texts[i + 1].equals("-") ? 0 : -100 - Integer.parseInt(texts[i + 1]);
            due("text \"" + texts[i] + "\"", say(new RoadsCrossed(), texts[i]), want);
        }
    }

    private static void textNesting() {
        String eight = "((((((((";
        String closed = "))))))))";
        due("eight brackets", say(new RoadsCrossed(), "harm " + eight + "w" + closed), 0);
        due("nine brackets", say(new RoadsCrossed(), "harm " + eight + "(w)" + closed), -113);
        due("eight, then one side by side", say(new RoadsCrossed(), "harm " + eight + "w" + closed + "+(w)"), 0);
        due("seven open, two side by side", say(new RoadsCrossed(), "harm (((((((" + "(w)+(w)" + ")))))))"), 0);
        due("eight nots", say(new RoadsCrossed(), "harm !!!!!!!!w"), 0);
        due("nine nots", say(new RoadsCrossed(), "harm !!!!!!!!!w"), -113);
        due("eight nots, then others", say(new RoadsCrossed(), "harm !!!!!!!!w+!!!!!!!!w"), 0);
        due("eight of each", say(new RoadsCrossed(), "harm !(!(!(!(!(!(!(!(w" + closed), 0);
        due("a ninth not in brackets", say(new RoadsCrossed(), "harm !(!(!(!(!(!(!(!(!w" + closed), -121);
        due("a ninth bracket in nots", say(new RoadsCrossed(), "harm !(!(!(!(!(!(!(!((w)" + closed), -121);
        due("nots that are closed do not count", say(new RoadsCrossed(), "harm !!!!(!!!!w+!!!!w)"), 0);
        due("nots round a bracket count", say(new RoadsCrossed(), "harm !!!!(!!!!w+!!!!!w)"), -120);
        due("eight open, and the end", say(new RoadsCrossed(), "harm " + eight), -113);
    }

    private static void textValues() {
        String[] texts = {
            "w", "7", "1+2*3", "7", "(1+2)*3", "9", "20-5-4", "11", "60/4/3", "5", "60/(4/3)", "60", "7/2", "3", "(0-7)/2+9", "6",
            "w/0+1", "1", "w/(w-w)", "0", "1+1<3", "1", "3<1+1", "0", "2=2", "1", "2>2", "0", "2<2", "0", "3>2", "1",
            "5&3", "1", "5&0", "0", "0|7", "1", "0|0", "0", "!0", "1", "!5", "0", "!!5", "1", "!w+3", "3", "!(w-7)*4", "4",
            "1|0&0", "1", "(1|0)&0", "0", "1<2&3<4", "1", "1&2=2", "1", "1&2+2=4", "1", "a", "2", "b", "5", "a*10+b", "25",
            "65*65*65*65*65*65-65*65*65*65*65*65+3", "3", "9999*9999*99>0", "1", "9999*9999*25>0", "0", "2*2/3", "1", "2/3*3", "0",
            "10-2+3", "11", "0-9", "0", "w*w", "49", "w*w*w", "99", "1000", "99", "!(a<b)", "0", "3=3=1", "fault"};
        for (int i = 0; i < texts.length; i += 2) {
            RoadsCrossed x = posts(6);
            x.road(0, 52, 7);
            int number = say(x, "harm " + texts[i]);
            if (texts[i + 1].equals("fault")) {
                due("no text: " + texts[i], number, -108);
            } else {
                due("harm " + texts[i], x.told(0, 5), Integer.parseInt(texts[i + 1]));
            }
        }
        // (0 - 2147483648) / (0 - 1) wraps, and the least number is held at 0; its rest is not.
        RoadsCrossed x = posts(2);
        x.road(0, 1, 1);
        say(x, "harm (8*8*8*8*8*8*8*8*8*8*2)/(0-1)<0");
        due("the least number by -1", x.told(0, 5), 1);
        say(x, "harm w & 1 / 0 | w");
        due("both sides are worked out", x.told(0, 5), 1);
    }

    private static void textTold() {
        RoadsCrossed x = new RoadsCrossed();
        say(x, "swap (a+1)*b-20");
        say(x, "harm w");
        say(x, "cross !p&(0|q)|9999<1");
        due("key", x.textTold(0, 0), 2);
        due("key", x.textTold(1, 0), 0);
        due("key", x.textTold(2, 0), 1);
        due("numbers and names", x.textTold(0, 1), 4);
        due("numbers and names", x.textTold(1, 1), 1);
        due("numbers and names", x.textTold(2, 1), 5);
        due("what", x.textTold(0, 2), BAD);
        due("what", x.textTold(0, -1), BAD);
        due("no text", x.textTold(3, 0), BAD);
        due("no text", x.textTold(-1, 0), BAD);
    }

    private static void why() {
        RoadsCrossed x = new RoadsCrossed();
        due("none", x.why(0), NONE);
        say(x, "harm w");
        due("text 0", x.why(0), 0);
        say(x, "swap a");
        say(x, "harm 1");
        due("the last of harm", x.why(0), 2);
        due("none of cross", x.why(1), NONE);
        due("of swap", x.why(2), 1);
        due("no key", x.why(3), BAD);
        due("no key", x.why(-1), BAD);
        say(x, "swap");
        due("a fault does not count", x.why(2), 1);
    }

    private static void sheet() {
        RoadsCrossed x = new RoadsCrossed();
        due("24 places", x.sheet(3, 1, 24), 24);
        due("no places", x.sheet(0, 0, 0), 0);
        due("n above", x.sheet(0, 0, 25), BAD);
        due("n below", x.sheet(0, 0, -1), SIZE);
        due("n below", x.sheet(0, 1, LEAST), SIZE);
        due("sort", x.sheet(0, 2, 1), BAD);
        due("sort", x.sheet(0, -2, 1), BAD);
        due("sort, and n below", x.sheet(0, 2, -1), BAD);
        due("no sheet", x.sheet(4, 0, 1), BAD);
        due("no sheet", x.sheet(-1, -1, 1), BAD);
        due("no sheet, and n below", x.sheet(4, 0, -1), BAD);
        due("missing again, n any", x.sheet(3, -1, 99), 0);
        due("missing again, n any", x.sheet(0, -1, -99), 0);
        due("missing then", x.mark(3, 0, 1), NOTHING);
        row(x, 1, 0, 5, 6);
        x.sheet(1, 0, 2);
        x.lay(0, 2, 1);
        due("all 0 again", x.item(0, 0), 0);
        due("all 0 again", x.item(0, 1), 0);
    }

    private static void mark() {
        RoadsCrossed x = new RoadsCrossed();
        due("no sheet", x.mark(4, 0, 1), BAD);
        due("no sheet", x.mark(-1, 0, 1), BAD);
        due("missing", x.mark(0, -1, NONE), NOTHING);
        x.sheet(0, 0, 3);
        due("no place", x.mark(0, 3, NONE), INDEX);
        due("no place", x.mark(0, -1, 1), INDEX);
        due("no number in shorts", x.mark(0, 2, NONE), KIND);
        due("a short", x.mark(0, 0, 32768), 1);
        due("a short", x.mark(0, 1, -32769), 1);
        due("a short", x.mark(0, 2, MOST), 1);
        x.lay(0, 2, 0);
        due("lowest 16 bits", x.item(0, 0), -32768);
        due("lowest 16 bits", x.item(0, 1), 32767);
        due("lowest 16 bits", x.item(0, 2), -1);
        x.sheet(1, 1, 3);
        due("a float", x.mark(1, 0, 99999), 1);
        due("a float", x.mark(1, 1, -99999), 1);
        due("no number", x.mark(1, 2, NONE), 1);
        due("above", x.mark(1, 0, 100000), BAD);
        due("below", x.mark(1, 0, -100000), BAD);
        due("no place, and above", x.mark(1, 3, 100000), INDEX);
        x.lay(0, 2, 1);
        due("a float", x.item(0, 0), 99999);
        due("a float", x.item(0, 1), -99999);
        due("no number", x.item(0, 2), KIND);
    }

    private static void pour() {
        RoadsCrossed x = new RoadsCrossed();
        due("no sheet", x.pour(4), BAD);
        due("no sheet", x.pour(-1), BAD);
        due("missing", x.pour(0), NOTHING);
        row(x, 0, 1, 9900, 99, NONE, 5);
        due("up to one that is no number", x.pour(0), 2);
        due("x", x.postTold(0, 0), 99);
        due("y", x.postTold(1, 1), 99);
        row(x, 0, 1, 0, 10000, 5);
        due("up to one outside", x.pour(0), 1);
        row(x, 0, 0, 7, -1, 5);
        due("up to one below 0", x.pour(0), 1);
        row(x, 0, 0, 8, 7, 5);
        due("up to one where a post is", x.pour(0), 1);
        row(x, 0, 0, 11, 12, 13, 14, 15);
        due("up to eight posts", x.pour(0), 3);
        due("posts", x.count(0), 8);
        due("the line", x.at(7), 7);
        x.sheet(1, 0, 0);
        due("no places", x.pour(1), 0);
    }

    private static void copy() {
        RoadsCrossed x = new RoadsCrossed();
        due("no sheet", x.copy(4, 0, 0, 0, 0), BAD);
        due("no sheet", x.copy(0, 0, -1, 0, 0), BAD);
        due("missing", x.copy(0, 0, 1, 0, 0), NOTHING);
        row(x, 0, 0, 1, 2, 3, 4, 5);
        due("the other is missing", x.copy(0, 0, 1, 0, 0), NOTHING);
        due("the other is missing", x.copy(1, 0, 0, 0, 0), NOTHING);
        x.sheet(1, 1, 5);
        due("unlike sorts", x.copy(0, -1, 1, 0, 99), KIND);
        x.sheet(1, 0, 3);
        due("copy", x.copy(0, 2, 1, 0, 3), 3);
        x.lay(0, 2, 1);
        due("copied", x.item(0, 0) * 100 + x.item(0, 1) * 10 + x.item(0, 2), 345);
        due("behind the end of the first", x.copy(0, 3, 1, 0, 3), INDEX);
        due("behind the end of the other", x.copy(0, 0, 1, 1, 3), INDEX);
        due("place below", x.copy(0, -1, 1, 0, 1), INDEX);
        due("at below", x.copy(0, 0, 1, -1, 1), INDEX);
        due("many below", x.copy(0, 1, 1, 1, -1), INDEX);
        due("many wild", x.copy(0, 1, 1, 1, MOST), INDEX);
        due("place wild", x.copy(0, MOST, 1, 1, MOST), INDEX);
        due("no places, at the end", x.copy(0, 5, 1, 3, 0), 0);
        due("no places, behind the end", x.copy(0, 6, 1, 0, 0), INDEX);
        due("no places, behind the other end", x.copy(0, 0, 1, 4, 0), INDEX);
        due("no places, below", x.copy(0, -1, 1, 0, 0), INDEX);
        due("on itself, upwards", x.copy(0, 0, 0, 1, 4), 4);
        x.lay(0, 2, 0);
        int[] up = {1, 1, 2, 3, 4};
        for (int i = 0; i < 5; i++) {
            due("as they were, place " + i, x.item(0, i), up[i]);
        }
        due("on itself, downwards", x.copy(0, 1, 0, 0, 4), 4);
        x.lay(0, 2, 0);
        int[] down = {1, 2, 3, 4, 4};
        for (int i = 0; i < 5; i++) {
            due("as they were, place " + i, x.item(0, i), down[i]);
        }
        row(x, 2, 1, NONE, 7);
        row(x, 3, 1, 1, 2);
        due("floats", x.copy(2, 0, 3, 1, 1), 1);
        x.lay(0, 2, 3);
        due("no number comes along", x.item(0, 1), KIND);
    }

    private static void lay() {
        RoadsCrossed x = posts(3);
        x.road(1, 1, 4);
        row(x, 2, 0, 42);
        due("no slot", x.lay(5, 0, 0), BAD);
        due("no slot", x.lay(-1, 0, 0), BAD);
        due("no thing", x.lay(0, 4, 0), BAD);
        due("no thing", x.lay(0, -1, 0), BAD);
        due("no road", x.lay(0, 1, 1), BAD);
        due("no road", x.lay(0, 1, -1), BAD);
        due("no sheet", x.lay(0, 2, 4), BAD);
        due("no sheet", x.lay(0, 2, -1), BAD);
        due("missing", x.lay(0, 2, 0), NOTHING);
        due("a road", x.lay(4, 1, 0), 0);
        due("a missing sheet changes nothing", x.lay(4, 2, 0), NOTHING);
        due("a sheet", x.lay(4, 2, 2), 1);
        due("a number", x.lay(4, 3, LEAST), 2);
        due("nothing", x.lay(4, 0, 77), 3);
        due("a number", x.lay(4, 3, 5), 0);
        x.lay(1, 2, 2);
        x.mark(2, 0, 43);
        due("a row of its own", x.item(1, 0), 42);
        x.sheet(2, -1, 0);
        due("a row of its own, though that is missing", x.item(1, 0), 42);
        x.lay(2, 1, 0);
        x.turns(0, 5);
        x.drop(0);
        due("a road as it was", x.ask(2, 1), 11);
        due("a road as it was", x.ask(2, 5), KIND);
    }

    private static void ask() {
        RoadsCrossed x = posts(3);
        x.road(4, 1, 4);
        due("no slot", x.ask(5, 0), BAD);
        due("no slot", x.ask(-1, 0), BAD);
        due("no kind", x.ask(0, 6), BAD);
        due("no kind", x.ask(0, -1), BAD);
        due("nothing", x.ask(0, 0), NOTHING);
        x.lay(0, 3, 0);
        due("no road", x.ask(0, 0), KIND);
        x.lay(0, 1, 0);
        int[] due = {3, KIND, 3, KIND, 3, KIND};
        for (int kind = 0; kind < 6; kind++) {
            due("mud as " + kind, x.ask(0, kind), due[kind]);
        }
        x.turns(0, 3);
        x.set(0, 0, 9);
        x.lay(0, 1, 0);
        due("toll as paved, worth as toll", x.ask(0, 1), -3);
        due("toll as road, worth as toll", x.ask(0, 0), -3);
        say(x, "harm 50");
        due("a text of harm is of no matter", x.ask(0, 0), -3);
        x.keep();
        x.lay(0, 0, 0);
        x.back();
        due("no image has slots", x.ask(0, 0), NOTHING);
    }

    private static void item() {
        RoadsCrossed x = new RoadsCrossed();
        due("no slot", x.item(5, 0), BAD);
        due("no slot", x.item(-1, 0), BAD);
        due("nothing", x.item(0, -1), NOTHING);
        x.lay(0, 3, 1);
        due("no sheet", x.item(0, -1), KIND);
        row(x, 0, 1, -7, NONE, 8);
        x.lay(0, 2, 0);
        due("item", x.item(0, 0), -7);
        due("item", x.item(0, 2), 8);
        due("no number", x.item(0, 1), KIND);
        due("no place", x.item(0, 3), INDEX);
        due("no place", x.item(0, -1), INDEX);
    }

    private static void rest() {
        RoadsCrossed x = new RoadsCrossed();
        due("no slot", x.rest(5, 1), BAD);
        due("no slot", x.rest(-1, 1), BAD);
        due("nothing", x.rest(0, 0), NOTHING);
        x.sheet(0, 0, 1);
        x.lay(0, 2, 0);
        due("no number", x.rest(0, 0), KIND);
        x.lay(0, 3, 17);
        due("rest", x.rest(0, 5), 2);
        due("rest by one below 0", x.rest(0, -5), 2);
        due("by 0", x.rest(0, 0), NO);
        x.lay(0, 3, -17);
        due("rest of one below 0", x.rest(0, 5), -2);
        x.lay(0, 3, LEAST);
        due("rest of the least by -1", x.rest(0, -1), 0);
        due("rest of the least by the most", x.rest(0, MOST), -1);
    }

    private static void tell() {
        RoadsCrossed x = new RoadsCrossed();
        for (int i = 1; i <= 60; i++) {
            due("tell", x.tell(-i), i);
        }
        due("the 61st", x.tell(0), FULL);
        due("as many as before", x.count(3), 60);
        x.check(1);
        due("none wait", x.tell(5), 1);
    }

    private static void check() {
        RoadsCrossed x = crossedSquare();
        x.tell(1);
        due("no image", x.check(1), NO);
        due("used up", x.count(3), 0);
        x.tell(1);
        due("n, ahead of no image", x.check(0), BAD);
        due("used up", x.count(3), 0);
        x.keep();
        // By the image: 0 and 1 change places, then there is none.
        x.move(3, 50, 50);
        x.drop(0);
        say(x, "swap 0");
        due("as told", check(x, 2, 1, 0, -1, 0), 0);
        due("the first is not", check(x, 2, 2, 0, -1, 0), 1);
        due("the second is not", check(x, 2, 1, 1, -1, 0), 2);
        due("the third is not", check(x, 2, 1, 0, 1, 0), 3);
        due("the fourth is not", check(x, 2, 1, 0, -1, 8), 4);
        due("as told once more", check(x, 2, 1, 0, -1, 0), 0);
        due("one is missing", check(x, 2, 1, 0, -1), 4);
        due("two are missing", check(x, 2, 1, 0), 3);
        due("all are missing", check(x, 2), 1);
        due("one too many", check(x, 2, 1, 0, -1, 0, -1), 5);
        due("more too many", check(x, 1, 1, 0, -1, 0, -1), 3);
        due("one that is not, ahead of too many", check(x, 1, 1, 8, -1, 0, -1), 2);
        due("n above", check(x, 31, 1, 0), BAD);
        due("n below", check(x, -1, 1, 0), BAD);
        due("used up", x.count(3), 0);
        due("nothing changes", x.postTold(3, 0), 50);
        due("roads as they are", x.count(1), 1);
        int[] all = new int[60];
        for (int i = 0; i < 60; i++) {
            all[i] = i == 0 ? 1 : i % 2 == 0 ? -1 : 0;
        }
        due("30 of them", check(x, 30, all), 0);
        due("29 of them, and too many", check(x, 29, all), 59);
        x.back();
        say(x, "swap a > 0");
        x.keep();
        say(x, "swap 0");
        due("by the texts of the image", check(x, 1, 12, 0), 0);
        say(x, "cross 0");
        due("the image as it was", check(x, 1, 12, 0), 0);
        x.back();
        say(x, "swap 0");
        say(x, "cross 7");
        x.keep();
        due("none may be: the cost now", check(x, 2, -1, 7, -1, 7), 0);
    }

    private static int check(RoadsCrossed x, int n, int... told) {
        for (int v : told) {
            x.tell(v);
        }
        return x.check(n);
    }

    private static void keep() {
        RoadsCrossed x = crossedSquare();
        due("keep", x.keep(), 2);
        x.drop(0);
        due("keep again", x.keep(), 1);
        x.drop(0);
        due("the last image counts", x.back(), 1);
        due("keep of none", new RoadsCrossed().keep(), 0);
    }

    private static void back() {
        RoadsCrossed x = crossedSquare();
        due("no image", x.back(), NO);
        x.layer(2, 3);
        x.set(1, 1, 2);
        row(x, 0, 0, 3, 2, 1, 0);
        x.line(0);
        say(x, "harm w*2");
        x.seed(-5);
        x.keep();
        for (int again = 0; again < 2; again++) {
            x.lay(0, 3, 12);
            x.layer(2, 0);
            x.set(1, 1, 0);
            x.set(1, 0, 1);
            x.turns(0, 3);
            x.move(0, 70, 70);
            row(x, 0, 0, 1, 0, 2, 3);
            x.line(0);
            say(x, "harm 0");
            say(x, "cross 0");
            x.road(5, 1, 1);
            x.set(2, 1, 3);
            x.deal(0, 3);
            x.layer(5, 3);
            x.tell(4);
            x.feed(1, 2, 3);
            due("back", x.back(), 2);
            due("posts", x.count(0), 4);
            due("texts", x.count(2), 1);
            due("z", x.count(5), -5);
            due("numbers that wait stay", x.count(3), again + 1);
            due("the tape stays", x.count(4), 12);
            x.trim(0);
            due("layer", x.postTold(2, 2), 3);
            due("place", x.postTold(0, 0), 0);
            due("page", x.told(1, 4), 2);
            due("weight", x.told(1, 3), 5);
            due("kind", x.told(0, 0), 0);
            due("harm by the text of the image", x.told(1, 5), 10);
            due("line", x.at(0), 3);
            due("place in the line", x.postTold(3, 3), 0);
            due("a new post", x.post(60, 60), 4);
            due("a new post", x.post(61, 60), 5);
            due("its layer", x.postTold(5, 2), 0);
            due("its place in the line", x.postTold(5, 3), 5);
            due("a new road", x.road(0, 1, 1), 2);
            due("its page", x.told(2, 4), 0);
            x.drop(0);
            x.back();
            due("back once more", x.told(0, 2), 2);
            due("slots stay", x.rest(0, 5), 2);
            x.lay(1, 2, 0);
            due("sheets stay", x.item(1, 0), 1);
        }
    }

    private static void count() {
        RoadsCrossed x = crossedSquare();
        say(x, "harm w");
        say(x, "harm w");
        say(x, "harm w");
        x.tell(1);
        x.feed(0, 0, 0);
        x.seed(BAD);
        int[] counts = {4, 2, 3, 1, 12, BAD};
        for (int what = 0; what < counts.length; what++) {
            due("count(" + what + ")", x.count(what), counts[what]);
        }
        due("what above", x.count(6), BAD);
        due("what below", x.count(-1), BAD);
        due("what wild", x.count(LEAST), BAD);
    }
}
