/** Boundary cases of promises 1 to 5, and of what Terms say of posts: each test names its sentence. */
public final class BoundariesOfPosts extends Boundaries {
    public static void main(String[] args) {
        run(BoundariesOfPosts.class, 1, 5);
    }

    // ---- Terms

    @Of(terms = 1, sentence = "POSTS, 8 at most, numbered from 0")
    static void postsAreNumberedFrom0UpTo7() {
        RoadsCrossed x = empty();
        for (int p = 0; p < 8; p++) {
            due("post " + p, x.post(p, 50), p);
        }
        due("a ninth", x.post(8, 50), FULL);
        due("count(0)", x.count(0), 8);
    }

    @Of(terms = 1, sentence = "each at a place x, y 0 .. 99 (no two at one)")
    static void postsStandAtTheFourCorners() {
        RoadsCrossed x = empty();
        due("post(0, 0)", x.post(0, 0), 0);
        due("post(99, 0)", x.post(99, 0), 1);
        due("post(0, 99)", x.post(0, 99), 2);
        due("post(99, 99)", x.post(99, 99), 3);
        due("x of the last", x.postTold(3, 0), 99);
        due("y of the last", x.postTold(3, 1), 99);
        due("x of post 2", x.postTold(2, 0), 0);
        due("y of post 1", x.postTold(1, 1), 0);
    }

    @Of(terms = 1, sentence = "each at a place x, y 0 .. 99 (no two at one)")
    static void noTwoPostsAtOnePlaceByAnyCall() {
        RoadsCrossed x = square();
        due("post", x.post(8, 8), NO);
        due("move", x.move(0, 8, 8), NO);
        row(x, 0, SHORTS, 808);
        due("pour", x.pour(0), 0);
        due("count(0)", x.count(0), 4);
        due("post at (8, 9)", x.post(8, 9), 4);
        due("post at (9, 8)", x.post(9, 8), 5);
    }

    @Of(terms = 1, sentence = "of a LAYER 0 .. 3 (0 at first)")
    static void aNewPostIsOfLayer0HoweverItComes() {
        RoadsCrossed x = rich();
        x.layer(0, 3);
        due("post", x.post(1, 2), 6);
        due("its layer", x.postTold(6, 2), 0);
        x.keep();
        due("one more", x.post(1, 3), 7);
        x.layer(7, 3);
        x.back();
        due("again", x.post(1, 4), 7);
        due("the layer of one that has the number of another one before", x.postTold(7, 2), 0);
    }

    // ---- promise 1

    @Of(promise = 1, sentence = "As told; no POSTS.")
    static void aNewObjectHasNoneOfAnything() {
        RoadsCrossed x = empty();
        for (int what = 0; what <= 4; what++) {
            due("count(" + what + ")", x.count(what), 0);
        }
        due("z", x.count(5), 1);
        for (int key = 0; key <= 2; key++) {
            due("why(" + key + ")", x.why(key), NONE);
        }
        due("back", x.back(), NO);
        due("check", x.check(1), NO);
        due("at(0)", x.at(0), BAD);
    }

    @Of(promise = 1, sentence = "As told; no POSTS.")
    static void aNewObjectHasMissingSheetsAndSlotsThatHoldNothing() {
        RoadsCrossed x = empty();
        for (int sheet = 0; sheet <= 3; sheet++) {
            due("sheet " + sheet, x.pour(sheet), NOTHING);
        }
        for (int slot = 0; slot <= 4; slot++) {
            due("ask " + slot, x.ask(slot, 0), NOTHING);
            due("item " + slot, x.item(slot, 0), NOTHING);
            due("rest " + slot, x.rest(slot, 1), NOTHING);
            due("lay " + slot, x.lay(slot, 0, 0), 0);
        }
    }

    @Of(promise = 1, sentence = "As told; no POSTS.")
    static void aNewObjectReckonsWithNothing() {
        RoadsCrossed x = empty();
        due("straight(0)", x.straight(0), 0);
        due("straight(1)", x.straight(1), 0);
        due("straight(2)", x.straight(2), NONE);
        due("bound", x.bound(), 0);
        due("best(0)", x.best(0), NONE);
        due("best(1)", x.best(1), NONE);
        due("swaps(30)", x.swaps(30), 0);
        due("book(0)", x.book(0), 0);
        due("book(1)", x.book(1), 0);
        due("pages(-1)", x.pages(-1), 0);
        due("bestLine(-1)", x.bestLine(-1), NO);
        due("layers(0)", x.layers(0), 0);
        due("layers(1)", x.layers(1), 0);
        due("bestRow(3, -1)", x.bestRow(3, -1), 0);
        due("bestRow(0, 0)", x.bestRow(0, 0), NONE);
        due("deal(1, 20)", x.deal(1, 20), NO);
        due("keep", x.keep(), 0);
        due("back", x.back(), 0);
    }

    @Of(promise = 1, sentence = "As told; no POSTS.")
    static void aNewObjectHasNothingOfAnother() {
        RoadsCrossed one = full();
        tellsOnly("a call on another object", () -> empty(), x -> one.count(0), 8);
    }

    // ---- promise 2

    @Of(promise = 2, sentence = "One more POST: its number.")
    static void postGoesOnFromHoweverManyThereAre() {
        RoadsCrossed x = empty();
        due("the first", x.post(0, 0), 0);
        row(x, 0, SHORTS, 9999, 9998);
        due("two are poured", x.pour(0), 2);
        due("the fourth", x.post(99, 0), 3);
        x.keep();
        due("the fifth", x.post(0, 99), 4);
        due("the sixth", x.post(50, 50), 5);
        x.back();
        due("the fifth again", x.post(50, 51), 4);
        due("its y", x.postTold(4, 1), 51);
        due("what was the sixth is none", x.postTold(5, 0), BAD);
    }

    @Of(promise = 2, sentence = "BAD; NO: there is one at that place; FULL.")
    static void postRefusesXOrYOutside() {
        for (int v : outside(0, 99)) {
            refused("post(" + v + ", 5)", () -> rich(), x -> x.post(v, 5), BAD);
            refused("post(5, " + v + ")", () -> rich(), x -> x.post(5, v), BAD);
            refused("post(" + v + ", " + v + ")", () -> empty(), x -> x.post(v, v), BAD);
        }
    }

    @Of(promise = 2, sentence = "NO: there is one at that place")
    static void postRefusesAPlaceThatIsTaken() {
        refused("post(0, 0)", () -> rich(), x -> x.post(0, 0), NO);
        refused("post(99, 99)", () -> rich(), x -> x.post(99, 99), NO);
    }

    @Of(promise = 2, sentence = "NO: there is one at that place")
    static void postTakesAPlaceThatAPostHasLeft() {
        RoadsCrossed x = square();
        due("move", x.move(0, 1, 1), 1);
        due("post at where it was", x.post(0, 0), 4);
        due("post at where it is", x.post(1, 1), NO);
    }

    @Of(promise = 2, sentence = "FULL.")
    static void postRefusesANinth() {
        refused("a ninth", () -> full(), x -> x.post(7, 7), FULL);
    }

    @Of(promise = 2, sentence = "BAD; NO: there is one at that place; FULL.")
    static void postRefusesInThisOrder() {
        refused("BAD ahead of FULL", () -> full(), x -> x.post(100, 0), BAD);
        refused("BAD ahead of FULL", () -> full(), x -> x.post(0, -1), BAD);
        refused("NO ahead of FULL", () -> full(), x -> x.post(0, 0), NO);
    }

    // ---- promise 3

    @Of(promise = 3, sentence = "BAD.")
    static void postToldRefusesAPostThatIsNone() {
        for (int post : outside(0, 5)) {
            refused("postTold(" + post + ", 0)", () -> rich(), x -> x.postTold(post, 0), BAD);
        }
        refused("post 8 of 8", () -> full(), x -> x.postTold(8, 4), BAD);
        refused("post 0 of none", () -> empty(), x -> x.postTold(0, 0), BAD);
    }

    @Of(promise = 3, sentence = "BAD.")
    static void postToldRefusesAWhatThatIsNone() {
        for (int what : outside(0, 4)) {
            refused("postTold(0, " + what + ")", () -> rich(), x -> x.postTold(0, what), BAD);
        }
    }

    @Of(promise = 3, sentence = "Of a POST: what 0 x, 1 y, 2 LAYER, 3 its place in THE LINE, 4 how many ROADS are from it")
    static void postToldTellsTheLeastAndTheMost() {
        RoadsCrossed x = full();
        due("roads from post 0", x.postTold(0, 4), 7);
        due("roads from post 7", x.postTold(7, 4), 3);
        due("place of post 0", x.postTold(0, 3), 0);
        due("place of post 7", x.postTold(7, 3), 7);
        due("x of post 7", x.postTold(7, 0), 99);
        due("y of post 0", x.postTold(0, 1), 0);
        due("roads from a post without any", square().postTold(0, 4), 0);
        x.layer(7, 3);
        due("layer of post 7", x.postTold(7, 2), 3);
    }

    // ---- promise 4

    @Of(promise = 4, sentence = "A POST goes to a place: 1; 0 it is there.")
    static void moveToWhereItIs() {
        tellsOnly("move(5, 99, 99)", () -> rich(), x -> x.move(5, 99, 99), 0);
        tellsOnly("move(0, 0, 0)", () -> full(), x -> x.move(0, 0, 0), 0);
    }

    @Of(promise = 4, sentence = "A POST goes to a place: 1; 0 it is there.")
    static void moveFromCornerToCorner() {
        RoadsCrossed x = full();
        due("move(0, 99, 0)", x.move(0, 99, 0), 1);
        due("x", x.postTold(0, 0), 99);
        due("y", x.postTold(0, 1), 0);
        due("move(7, 0, 0)", x.move(7, 0, 0), 1);
        due("move(7, 0, 99)", x.move(7, 0, 99), 1);
        due("y", x.postTold(7, 1), 99);
    }

    @Of(promise = 4, sentence = "BAD; NO: another one is there.")
    static void moveRefusesAPostThatIsNone() {
        for (int post : outside(0, 5)) {
            refused("move(" + post + ", 5, 5)", () -> rich(), x -> x.move(post, 5, 5), BAD);
        }
        refused("of none", () -> empty(), x -> x.move(0, 5, 5), BAD);
    }

    @Of(promise = 4, sentence = "BAD; NO: another one is there.")
    static void moveRefusesXOrYOutside() {
        for (int v : outside(0, 99)) {
            refused("move(0, " + v + ", 5)", () -> rich(), x -> x.move(0, v, 5), BAD);
            refused("move(0, 5, " + v + ")", () -> rich(), x -> x.move(0, 5, v), BAD);
        }
    }

    @Of(promise = 4, sentence = "NO: another one is there.")
    static void moveRefusesAnothersPlace() {
        refused("move(0, 99, 99)", () -> rich(), x -> x.move(0, 99, 99), NO);
        refused("move(5, 0, 0)", () -> rich(), x -> x.move(5, 0, 0), NO);
    }

    @Of(promise = 4, sentence = "BAD; NO: another one is there.")
    static void moveRefusesInThisOrder() {
        refused("no post, and another one is there", () -> rich(), x -> x.move(6, 0, 0), BAD);
    }

    // ---- promise 5

    @Of(promise = 5, sentence = "LAYER of a POST becomes v: what it was.")
    static void layerTheLeastTheMostAndTheSame() {
        RoadsCrossed x = full();
        due("layer(7, 3)", x.layer(7, 3), 0);
        tellsOnly("layer(5, 3), as it is", () -> rich(), y -> y.layer(5, 3), 3);
        due("layer(7, 0)", x.layer(7, 0), 3);
        due("layer(7, 0) again", x.layer(7, 0), 0);
    }

    @Of(promise = 5, sentence = "BAD.")
    static void layerRefusesAPostThatIsNone() {
        for (int post : outside(0, 5)) {
            refused("layer(" + post + ", 1)", () -> rich(), x -> x.layer(post, 1), BAD);
        }
        refused("of none", () -> empty(), x -> x.layer(0, 0), BAD);
    }

    @Of(promise = 5, sentence = "BAD.")
    static void layerRefusesALayerOutside() {
        for (int v : outside(0, 3)) {
            refused("layer(1, " + v + ")", () -> rich(), x -> x.layer(1, v), BAD);
        }
    }
}
