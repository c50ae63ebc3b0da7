import java.util.ArrayDeque;
import java.util.ArrayList;
import java.util.Arrays;
import java.util.Deque;
import java.util.List;
import java.util.Random;
import java.util.regex.Matcher;
import java.util.regex.Pattern;

/**
 * Long runs of calls by lot (the same ones each time), each answer held against a second, slow and plain
 * program that was written from the document by other ways: fractions for crossings, all rows for the best
 * line, rewriting for the texts.
 */
public final class RoadsCrossedAgainstModel {
    private static final int BAD = -1000000001, NO = -1000000002, FULL = -1000000003, NONE = -1000000005;
    private static final int NOTHING = -1000000011, KIND = -1000000012, INDEX = -1000000013, SIZE = -1000000014;

    private static final String[] CALLS = {
        "post", "postTold", "move", "layer", "road", "told", "as", "turns", "set", "drop", "cross", "straight", "bound",
        "would", "best", "swaps", "line", "at", "book", "pages", "bestLine", "layers", "bestRow", "deal", "seed", "feed",
        "trim", "text", "textTold", "why", "sheet", "mark", "pour", "copy", "lay", "ask", "item", "rest", "tell", "check",
        "keep", "back", "count"};
    /** How often each call comes; dear ones come seldom. */
    private static final int[] OFTEN = {
        8, 6, 4, 8, 14, 10, 4, 6, 6, 2, 6, 6, 3,
        5, 3, 2, 4, 3, 4, 4, 2, 5, 5, 3, 1, 2,
        2, 2, 3, 3, 3, 8, 2, 4, 5, 4, 4, 3, 4, 2,
        1, 1, 4};

    private static int wrong = 0;
    private static int calls = 0;

    public static void main(String[] args) throws ReflectiveOperationException {
        int runs = args.length > 0 ? Integer.parseInt(args[0]) : 80;
        int first = args.length > 1 ? Integer.parseInt(args[1]) : 1;
        for (int seed = first; seed < first + runs && wrong < 10; seed++) {
            run(seed);
        }
        System.out.println(calls + " calls, " + (wrong == 0 ? "all answers as the model's" : wrong + " answers not as the model's"));
        if (wrong != 0) {
            System.exit(1);
        }
    }

    private static void run(int seed) throws ReflectiveOperationException {
        Random lot = new Random(seed);
        RoadsCrossed subject = new RoadsCrossed();
        Model model = new Model();
        List<String> told = new ArrayList<>();
        boolean crowded = lot.nextBoolean();
        Deque<int[]> queue = new ArrayDeque<>();
        if (crowded) {
            queue.add(new int[] {24, lot.nextInt()});
            queue.add(new int[] {23, 0, 7 + lot.nextInt(6)});
            queue.add(new int[] {23, 1, 20});
        }
        for (int i = 0; i < 512; i++) {
            if (queue.isEmpty()) {
                plan(lot, model, queue);
            }
            int[] call = queue.remove();
            int due = answer(model, call);
            int got = answer(subject, call);
            calls++;
            told.add(CALLS[call[0]] + Arrays.toString(Arrays.copyOfRange(call, 1, call.length)) + " = " + got);
            if (due != got) {
                wrong++;
                System.out.println("run " + seed + ", call " + i + ": due is " + due);
                for (String row : told) {
                    System.out.println("  " + row);
                }
                return;
            }
        }
    }

    // ---- which calls come

    private static void plan(Random lot, Model m, Deque<int[]> queue) {
        int all = 0;
        for (int often : OFTEN) {
            all += often;
        }
        int pick = lot.nextInt(all);
        int call = 0;
        while (pick >= OFTEN[call]) {
            pick -= OFTEN[call];
            call++;
        }
        switch (CALLS[call]) {
            case "text":
                planText(lot, queue);
                break;
            case "line":
                planLine(lot, m, queue);
                break;
            case "check":
                planCheck(lot, m, queue);
                break;
            default:
                queue.add(args(lot, m, call));
        }
    }

    private static void planText(Random lot, Deque<int[]> queue) {
        queue.add(new int[] {26, 0});
        String text = TextLot.text(lot);
        if (text.length() > 96) {
            text = text.substring(0, 96);
        }
        for (int i = 0; i < text.length(); i += 12) {
            int[] feed = {25, 0, 0, 0};
            for (int j = 0; j < 12; j++) {
                int b = i + j < text.length() ? text.charAt(i + j) : 32;
                feed[1 + j / 4] |= b << 24 - 8 * (j % 4);
            }
            queue.add(feed);
        }
        queue.add(new int[] {26, text.length()});
        queue.add(new int[] {27});
    }

    private static void planLine(Random lot, Model m, Deque<int[]> queue) {
        int sheet = lot.nextInt(4);
        int posts = m.land.posts.size();
        if (lot.nextInt(4) > 0) {
            queue.add(new int[] {30, sheet, lot.nextInt(2), lot.nextInt(12) == 0 ? posts + 1 : posts});
            List<Integer> row = new ArrayList<>();
            for (int p = 0; p < posts; p++) {
                row.add(lot.nextInt(row.size() + 1), p);
            }
            for (int p = 0; p < posts; p++) {
                int v = lot.nextInt(40) == 0 ? (lot.nextBoolean() ? NONE : lot.nextInt(10) - 1) : row.get(p);
                queue.add(new int[] {31, sheet, p, v});
            }
        }
        queue.add(new int[] {16, sheet});
    }

    private static void planCheck(Random lot, Model m, Deque<int[]> queue) {
        int n = lot.nextInt(8) == 0 ? lot.nextInt(40) - 4 : 1 + lot.nextInt(4);
        if (lot.nextInt(3) == 0) {
            queue.add(new int[] {40});
        }
        if (m.image != null && lot.nextInt(5) > 0) {
            queue.add(new int[] {39, 0});
            List<Integer> row = m.swapsTold(Math.max(0, Math.min(30, n)));
            int slip = lot.nextInt(3) == 0 ? lot.nextInt(row.size() + 1) : -1;
            int end = lot.nextInt(4) == 0 ? lot.nextInt(row.size() + 1) : row.size();
            for (int i = 0; i < end; i++) {
                queue.add(new int[] {38, row.get(i) + (i == slip ? 1 : 0)});
            }
            if (lot.nextInt(5) == 0) {
                queue.add(new int[] {38, lot.nextInt(3)});
            }
        }
        queue.add(new int[] {39, n});
    }

    private static int[] args(Random lot, Model m, int call) {
        int wild = lot.nextInt(25);
        int posts = m.land.posts.size();
        int roads = m.land.roads.size();
        int post = near(lot, posts);
        int other = near(lot, posts);
        int road = near(lot, roads);
        switch (CALLS[call]) {
            case "post":
                return wild == 0 ? new int[] {call, lot.nextInt(104) - 2, lot.nextInt(104) - 2}
                    : new int[] {call, lot.nextInt(7), lot.nextInt(7)};
            case "postTold":
                return new int[] {call, post, near(lot, 5)};
            case "move":
                return wild < 2 ? new int[] {call, post, lot.nextInt(104) - 2, lot.nextInt(104) - 2}
                    : new int[] {call, post, lot.nextInt(7), lot.nextInt(7)};
            case "layer":
                return new int[] {call, post, near(lot, 4)};
            case "road":
                return new int[] {call, near(lot, 6), wild == 0 ? lot.nextInt() : wild == 1 ? lot.nextInt(120) - 10 : 10 * post + other,
                    1 + near(lot, 9)};
            case "told":
                return new int[] {call, road, near(lot, 7)};
            case "as":
            case "turns":
                return new int[] {call, road, near(lot, 6)};
            case "set":
                return lot.nextBoolean() ? new int[] {call, road, 0, 1 + near(lot, 9)} : new int[] {call, road, wild == 0 ? 2 : 1, near(lot, 4)};
            case "drop":
                return new int[] {call, road};
            case "cross":
                return new int[] {call, road, near(lot, roads)};
            case "straight":
                return new int[] {call, near(lot, 3)};
            case "would":
                return new int[] {call, post, other};
            case "best":
            case "book":
            case "layers":
                return new int[] {call, near(lot, 2)};
            case "swaps":
                return new int[] {call, wild < 3 ? lot.nextInt(36) - 2 : 1 + lot.nextInt(2)};
            case "at":
                return new int[] {call, post};
            case "pages":
                return new int[] {call, lot.nextInt(3) == 0 ? -1 : wild == 0 ? -2 : road};
            case "bestLine":
                return new int[] {call, lot.nextInt(3) == 0 ? -1 : wild == 0 ? -2 : post};
            case "bestRow":
                return new int[] {call, near(lot, 4), lot.nextInt(3) == 0 ? -1 : wild == 0 ? -2 : lot.nextInt(6)};
            case "deal":
                return new int[] {call, near(lot, 2), wild < 4 ? lot.nextInt(24) - 1 : 1 + lot.nextInt(3)};
            case "seed":
                return new int[] {call, lot.nextInt()};
            case "feed":
                return new int[] {call, lot.nextInt(), lot.nextInt(), lot.nextInt()};
            case "trim":
                return new int[] {call, near(lot, m.tape.length() + 1)};
            case "textTold":
                return new int[] {call, near(lot, m.land.texts.size()), near(lot, 2)};
            case "why":
                return new int[] {call, near(lot, 3)};
            case "sheet":
                return new int[] {call, near(lot, 4), wild == 0 ? lot.nextInt(6) - 3 : lot.nextInt(8) == 0 ? -1 : lot.nextInt(2),
                    wild < 3 ? lot.nextInt(32) - 3 : lot.nextInt(9)};
            case "mark":
                return new int[] {call, near(lot, 4), lot.nextInt(8) - (wild == 0 ? 1 : 0),
                    wild == 1 ? lot.nextInt() : wild < 5 ? NONE : wild < 8 ? lot.nextInt(220000) - 110000
                        : wild < 16 ? 100 * lot.nextInt(7) + lot.nextInt(7) : lot.nextInt(10)};
            case "pour":
                return new int[] {call, near(lot, 4)};
            case "copy":
                return wild < 2 ? new int[] {call, near(lot, 4), lot.nextInt(), near(lot, 4), lot.nextInt(4), Integer.MAX_VALUE - lot.nextInt(3)}
                    : new int[] {call, near(lot, 4), lot.nextInt(9) - 1, near(lot, 4), lot.nextInt(9) - 1, lot.nextInt(7) - 1};
            case "lay":
                int thing = near(lot, 4);
                return new int[] {call, near(lot, 5), thing, thing == 1 ? road : thing == 2 ? near(lot, 4) : lot.nextInt()};
            case "ask":
                return new int[] {call, near(lot, 5), near(lot, 6)};
            case "item":
                return new int[] {call, near(lot, 5), lot.nextInt(10) - 1};
            case "rest":
                return new int[] {call, near(lot, 5), wild < 4 ? 0 : wild < 8 ? -1 : lot.nextInt(200) - 100};
            case "tell":
                return new int[] {call, lot.nextInt(100)};
            case "count":
                return new int[] {call, near(lot, 6)};
            default:
                return new int[] {call};
        }
    }

    /** Mostly one of the numbers below n, now and then one that is not. */
    private static int near(Random lot, int n) {
        int pick = lot.nextInt(40);
        if (pick == 0) {
            return -1;
        }
        if (pick == 1) {
            return n;
        }
        if (pick == 2) {
            return lot.nextInt();
        }
        return n > 0 ? lot.nextInt(n) : 0;
    }

    private static int answer(Object of, int[] call) throws ReflectiveOperationException {
        Class<?>[] types = new Class<?>[call.length - 1];
        Object[] values = new Object[call.length - 1];
        for (int i = 0; i < values.length; i++) {
            types[i] = int.class;
            values[i] = call[i + 1];
        }
        return (Integer) of.getClass().getDeclaredMethod(CALLS[call[0]], types).invoke(of, values);
    }

    /** Texts by lot: most of them right, some with a byte changed, taken out or put in. */
    private static final class TextLot {
        static String text(Random lot) {
            int key = lot.nextInt(3);
            StringBuilder text = new StringBuilder(new String[] {"harm ", "cross ", "swap "}[key]);
            if (lot.nextInt(25) == 0) {
                deep(lot, text);
            } else {
                chain(lot, new String[] {"wab", "pq", "ab"}[key], text, 0, 0);
            }
            int slips = lot.nextInt(3) == 0 ? 1 + lot.nextInt(2) : 0;
            for (int i = 0; i < slips; i++) {
                slip(lot, text);
            }
            return text.toString();
        }

        private static void deep(Random lot, StringBuilder text) {
            int brackets = 0;
            int many = 7 + lot.nextInt(12);
            for (int i = 0; i < many; i++) {
                if (lot.nextBoolean()) {
                    text.append('(');
                    brackets++;
                } else {
                    text.append('!');
                }
                if (brackets > 0 && lot.nextInt(12) == 0) {
                    text.append("3)+");
                    brackets--;
                }
            }
            text.append('7');
            for (int i = 0; i < brackets; i++) {
                text.append(')');
            }
        }

        private static void chain(Random lot, String names, StringBuilder text, int level, int depth) {
            if (level == 5) {
                piece(lot, names, text, depth);
                return;
            }
            chain(lot, names, text, level + 1, depth);
            String signs = new String[] {"|", "&", "<=>", "+-", "*/"}[level];
            int more = lot.nextInt(level < 3 ? 5 : 3) == 0 ? level == 2 ? 1 : 1 + lot.nextInt(2) : 0;
            for (int i = 0; i < more; i++) {
                blank(lot, text);
                text.append(signs.charAt(lot.nextInt(signs.length())));
                blank(lot, text);
                chain(lot, names, text, level + 1, depth);
            }
        }

        private static void piece(Random lot, String names, StringBuilder text, int depth) {
            int pick = lot.nextInt(10);
            if (pick == 0 && depth < 3) {
                text.append('!');
                piece(lot, names, text, depth + 1);
            } else if (pick < 3 && depth < 3) {
                text.append('(');
                chain(lot, names, text, 0, depth + 1);
                text.append(')');
            } else if (pick < 6) {
                text.append(lot.nextInt(lot.nextInt(5) == 0 ? 10000 : 12));
            } else {
                text.append(names.charAt(lot.nextInt(names.length())));
            }
        }

        private static void blank(Random lot, StringBuilder text) {
            for (int i = lot.nextInt(5); i > 2; i--) {
                text.append(' ');
            }
        }

        private static void slip(Random lot, StringBuilder text) {
            String bytes = "wabpqz0123456789 !()|&<=>+-*/A#" + (char) 200;
            int place = lot.nextInt(text.length() + 1);
            char b = bytes.charAt(lot.nextInt(bytes.length()));
            if (place == text.length() || lot.nextInt(3) == 0) {
                text.insert(place, b);
            } else if (lot.nextBoolean()) {
                text.setCharAt(place, b);
            } else if (lot.nextBoolean()) {
                text.deleteCharAt(place);
            } else {
                text.setLength(place);
            }
        }
    }

    /** A text, its words and signs, and what it gives, by rewriting of plain strings. */
    private static final class Text {
        private static final Pattern TOKEN = Pattern.compile("[a-z]+|[0-9]+|[^ ]", Pattern.DOTALL);
        private static final String SUM = "!*N(?:[-+*/]!*N)*";
        private static final String TEST = SUM + "(?:[<=>]" + SUM + ")?";
        private static final String E = TEST + "(?:[&|]" + TEST + ")*";

        final List<String> tokens = new ArrayList<>();
        int fault = -1;
        int key = -1;
        int leaves = 0;

        Text(String tape) {
            Matcher m = TOKEN.matcher(tape);
            int end = -1;
            boolean word = false;
            while (fault < 0 && m.find()) {
                boolean isWord = m.group().matches("[a-z]+|[0-9]+");
                if (isWord && word && end == m.start() || !goesOn(m.group())) {
                    fault = m.start();
                }
                end = m.end();
                word = isWord;
            }
            if (fault < 0 && (key < 0 || !isWhole(shape()))) {
                fault = tape.length();
            }
        }

        private boolean goesOn(String token) {
            if (key < 0) {
                key = Arrays.asList("harm", "cross", "swap").indexOf(token);
                return key >= 0;
            }
            boolean leaf = token.matches("[0-9]{1,4}") || token.matches(new String[] {"[wab]", "[pq]", "[ab]"}[key]);
            if (!leaf && !token.matches("[-|&<=>+*/!()]")) {
                return false;
            }
            tokens.add(token);
            leaves += leaf ? 1 : 0;
            String so = shape();
            return !isTooDeep(so) && (canEnd(so) || canEnd(so + "N"));
        }

        private String shape() {
            StringBuilder so = new StringBuilder();
            for (String token : tokens) {
                so.append(token.matches("[a-z0-9]+") ? "N" : token);
            }
            return so.toString();
        }

        private static boolean canEnd(String so) {
            for (int more = 0; more < 9; more++) {
                if (isWhole(so + ")".repeat(more))) {
                    return true;
                }
            }
            return false;
        }

        private static boolean isWhole(String so) {
            String rest = so;
            String less = rest.replaceAll("\\(" + E + "\\)", "N");
            while (!less.equals(rest)) {
                rest = less;
                less = rest.replaceAll("\\(" + E + "\\)", "N");
            }
            return rest.matches(E);
        }

        /** Whether nine brackets, or nine nots, are open somewhere. */
        private static boolean isTooDeep(String so) {
            Deque<Character> open = new ArrayDeque<>();
            for (char c : so.toCharArray()) {
                if (c == '(' || c == '!') {
                    open.push(c);
                    if (open.stream().filter(o -> o == c).count() > 8) {
                        return true;
                    }
                    continue;
                }
                if (c == ')' && !open.isEmpty()) {
                    open.pop();
                }
                if (c == ')' || c == 'N') {
                    while (!open.isEmpty() && open.peek() == '!') {
                        open.pop();
                    }
                }
            }
            return false;
        }

        int gives(int... values) {
            return gives(0, tokens.size(), values);
        }

        private int gives(int from, int to, int[] values) {
            for (String signs : new String[] {"|", "&", "<=>", "+-", "*/"}) {
                int depth = 0;
                for (int i = to - 1; i >= from; i--) {
                    String t = tokens.get(i);
                    depth += t.equals(")") ? 1 : t.equals("(") ? -1 : 0;
                    if (depth == 0 && signs.contains(t)) {
                        return joined(t, gives(from, i, values), gives(i + 1, to, values));
                    }
                }
            }
            String t = tokens.get(from);
            if (t.equals("!")) {
                return gives(from + 1, to, values) == 0 ? 1 : 0;
            }
            if (t.equals("(")) {
                return gives(from + 1, to - 1, values);
            }
            if (t.matches("[0-9]+")) {
                return Integer.parseInt(t);
            }
            return values[new String[] {"wab", "pq", "ab"}[key].indexOf(t)];
        }

        private static int joined(String sign, int l, int r) {
            switch (sign) {
                case "|": return l != 0 | r != 0 ? 1 : 0;
                case "&": return l != 0 & r != 0 ? 1 : 0;
                case "<": return l < r ? 1 : 0;
                case "=": return l == r ? 1 : 0;
                case ">": return l > r ? 1 : 0;
                case "+": return (int) ((long) l + r);
                case "-": return (int) ((long) l - r);
                case "*": return (int) ((long) l * r);
                default: return r == 0 ? 0 : (int) ((long) l / r);
            }
        }
    }

    private static final class Post {
        int x;
        int y;
        int layer;

        Post(int x, int y, int layer) {
            this.x = x;
            this.y = y;
            this.layer = layer;
        }
    }

    private static final class Road {
        int kind;
        int a;
        int b;
        int weight;
        int page;

        Road(int kind, int a, int b, int weight, int page) {
            this.kind = kind;
            this.a = a;
            this.b = b;
            this.weight = weight;
            this.page = page;
        }

        int worth() {
            int[] worths = {10 - weight, 15 - weight, (10 - weight) / 2, 15 - 2 * weight, (10 - weight) / 2, 20};
            return worths[kind];
        }

        boolean isOf(int of) {
            String above = new String[] {"0", "10", "20", "310", "420", "50"}[kind];
            return above.contains("" + of);
        }
    }

    private interface Meeting {
        boolean of(Road r, Road s);
    }

    private static final class Land {
        final List<Post> posts = new ArrayList<>();
        final List<Road> roads = new ArrayList<>();
        final List<Integer> line = new ArrayList<>();
        final List<Text> texts = new ArrayList<>();
        int z = 1;

        Land twin() {
            Land t = new Land();
            for (Post p : posts) {
                t.posts.add(new Post(p.x, p.y, p.layer));
            }
            for (Road r : roads) {
                t.roads.add(new Road(r.kind, r.a, r.b, r.weight, r.page));
            }
            t.line.addAll(line);
            t.texts.addAll(texts);
            t.z = z;
            return t;
        }

        Text law(int key) {
            Text law = null;
            for (Text t : texts) {
                law = t.key == key ? t : law;
            }
            return law;
        }

        int harm(Road r) {
            Text law = law(0);
            int plain = law == null ? r.weight : Math.min(99, Math.max(0, law.gives(r.weight, r.a, r.b)));
            int track = plain / 2 + plain % 2;
            int[] harms = {plain, plain + 2, track, 2 * plain + 4, track + r.weight, 0};
            return harms[r.kind];
        }

        int cost(Road r, Road s) {
            Text law = law(1);
            int p = harm(r);
            int q = harm(s);
            return law == null ? p + q : Math.min(999, Math.max(0, law.gives(p, q)));
        }

        int pairs(Meeting m) {
            int many = 0;
            for (Road r : roads) {
                for (Road s : roads.subList(roads.indexOf(r) + 1, roads.size())) {
                    many += m.of(r, s) ? 1 : 0;
                }
            }
            return many;
        }

        int sum(Meeting m) {
            int sum = 0;
            for (int i = 0; i < roads.size(); i++) {
                for (int j = i + 1; j < roads.size(); j++) {
                    sum += m.of(roads.get(i), roads.get(j)) ? cost(roads.get(i), roads.get(j)) : 0;
                }
            }
            return sum;
        }

        static boolean apart(Road r, Road s) {
            return r.a != s.a && r.a != s.b && r.b != s.a && r.b != s.b;
        }

        boolean straight(Road r, Road s) {
            if (!apart(r, s)) {
                return false;
            }
            Post p = posts.get(r.a);
            Post q = posts.get(s.a);
            int rx = posts.get(r.b).x - p.x;
            int ry = posts.get(r.b).y - p.y;
            int sx = posts.get(s.b).x - q.x;
            int sy = posts.get(s.b).y - q.y;
            int det = rx * sy - ry * sx;
            int dx = q.x - p.x;
            int dy = q.y - p.y;
            if (det != 0) {
                // p + t r = q + u s
                int t = dx * sy - dy * sx;
                int u = dx * ry - dy * rx;
                return isShare(t, det) && isShare(u, det);
            }
            if (dx * ry - dy * rx != 0) {
                return false;
            }
            int length = rx * rx + ry * ry;
            int from = dx * rx + dy * ry;
            int to = from + sx * rx + sy * ry;
            return Math.max(from, to) >= 0 && Math.min(from, to) <= length;
        }

        private static boolean isShare(int part, int whole) {
            return whole > 0 ? part >= 0 && part <= whole : part <= 0 && part >= whole;
        }

        boolean inRow(List<Integer> row, Road r, Road s) {
            if (!apart(r, s)) {
                return false;
            }
            StringBuilder ends = new StringBuilder();
            for (int p : row) {
                if (p == r.a || p == r.b) {
                    ends.append('r');
                }
                if (p == s.a || p == s.b) {
                    ends.append('s');
                }
            }
            return ends.toString().equals("rsrs") || ends.toString().equals("srsr");
        }

        boolean inLayers(List<Integer> row, Road r, Road s) {
            if (!apart(r, s)) {
                return false;
            }
            for (int l = 0; l < 3; l++) {
                int[] e = {end(r, l, l + 1), end(s, l, l + 1), end(r, l + 1, l), end(s, l + 1, l)};
                if (e[0] >= 0 && e[1] >= 0) {
                    return row.indexOf(e[0]) < row.indexOf(e[1]) != row.indexOf(e[2]) < row.indexOf(e[3]);
                }
            }
            return false;
        }

        /** The end of a road that is in a layer, if the other one is in another layer. */
        private int end(Road r, int in, int far) {
            if (posts.get(r.a).layer == in && posts.get(r.b).layer == far) {
                return r.a;
            }
            return posts.get(r.b).layer == in && posts.get(r.a).layer == far ? r.b : -1;
        }

        void swap(int a, int b) {
            Post p = posts.get(a);
            Post q = posts.get(b);
            Post was = new Post(p.x, p.y, 0);
            p.x = q.x;
            p.y = q.y;
            q.x = was.x;
            q.y = was.y;
        }

        int behind(int a, int b) {
            Land t = twin();
            t.swap(a, b);
            return t.sum(t::straight);
        }

        /** a, b, the cost; null: there is none. */
        int[] bestSwap() {
            int now = sum(this::straight);
            int[] best = null;
            Text law = law(2);
            for (int a = 0; a < posts.size(); a++) {
                for (int b = a + 1; b < posts.size(); b++) {
                    if (law == null || law.gives(a, b) != 0) {
                        int cost = behind(a, b);
                        if (cost < now && (best == null || cost < best[2])) {
                            best = new int[] {a, b, cost};
                        }
                    }
                }
            }
            return best;
        }

        boolean addPost(int x, int y) {
            if (x < 0 || x > 99 || y < 0 || y > 99 || posts.size() == 8) {
                return false;
            }
            for (Post p : posts) {
                if (p.x == x && p.y == y) {
                    return false;
                }
            }
            line.add(posts.size());
            posts.add(new Post(x, y, 0));
            return true;
        }

        Road between(int a, int b) {
            for (Road r : roads) {
                if (r.a == Math.min(a, b) && r.b == Math.max(a, b)) {
                    return r;
                }
            }
            return null;
        }

        int draw(int by) {
            long next = (z * 1103515245L + 12345) & 0xffffffffL;
            z = (int) next;
            return (int) ((next >> 8) % by);
        }
    }

    private static final class Model {
        Land land = new Land();
        Land image = null;
        String tape = "";
        final List<Integer> waiting = new ArrayList<>();
        /** A sheet: its sort, then its places (null: NO NUMBER). */
        final Integer[][] sheets = new Integer[4][];
        final Object[] slots = new Object[5];

        private boolean isPost(int p) {
            return p >= 0 && p < land.posts.size();
        }

        private boolean isRoad(int r) {
            return r >= 0 && r < land.roads.size();
        }

        private static boolean in(int v, int from, int to) {
            return v >= from && v <= to;
        }

        int post(int x, int y) {
            if (!in(x, 0, 99) || !in(y, 0, 99)) {
                return BAD;
            }
            if (land.posts.stream().anyMatch(p -> p.x == x && p.y == y)) {
                return NO;
            }
            return land.addPost(x, y) ? land.posts.size() - 1 : FULL;
        }

        int postTold(int post, int what) {
            if (!isPost(post) || !in(what, 0, 4)) {
                return BAD;
            }
            Post p = land.posts.get(post);
            int from = (int) land.roads.stream().filter(r -> r.a == post || r.b == post).count();
            return new int[] {p.x, p.y, p.layer, land.line.indexOf(post), from}[what];
        }

        int move(int post, int x, int y) {
            if (!isPost(post) || !in(x, 0, 99) || !in(y, 0, 99)) {
                return BAD;
            }
            Post p = land.posts.get(post);
            if (p.x == x && p.y == y) {
                return 0;
            }
            if (land.posts.stream().anyMatch(q -> q.x == x && q.y == y)) {
                return NO;
            }
            p.x = x;
            p.y = y;
            return 1;
        }

        int layer(int post, int v) {
            if (!isPost(post) || !in(v, 0, 3)) {
                return BAD;
            }
            int was = land.posts.get(post).layer;
            land.posts.get(post).layer = v;
            return was;
        }

        int road(int kind, int ends, int weight) {
            int a = Math.floorDiv(ends, 10);
            int b = Math.floorMod(ends, 10);
            if (!in(kind, 0, 5) || !in(weight, 1, 9) || !isPost(a) || !isPost(b) || a == b) {
                return BAD;
            }
            if (land.between(a, b) != null) {
                return NO;
            }
            if (land.roads.size() == 18) {
                return FULL;
            }
            land.roads.add(new Road(kind, Math.min(a, b), Math.max(a, b), weight, 0));
            return land.roads.size() - 1;
        }

        int told(int road, int what) {
            if (!isRoad(road) || !in(what, 0, 6)) {
                return BAD;
            }
            Road r = land.roads.get(road);
            return new int[] {r.kind, r.a, r.b, r.weight, r.page, land.harm(r), r.worth()}[what];
        }

        int as(int road, int kind) {
            if (!isRoad(road) || !in(kind, 0, 5)) {
                return BAD;
            }
            return land.roads.get(road).isOf(kind) ? land.roads.get(road).weight : KIND;
        }

        int turns(int road, int kind) {
            if (!isRoad(road) || !in(kind, 0, 5)) {
                return BAD;
            }
            int was = land.roads.get(road).kind;
            land.roads.get(road).kind = kind;
            return was;
        }

        int set(int road, int what, int v) {
            if (!isRoad(road) || !in(what, 0, 1) || !(what == 0 ? in(v, 1, 9) : in(v, 0, 3))) {
                return BAD;
            }
            Road r = land.roads.get(road);
            int was = what == 0 ? r.weight : r.page;
            r.weight = what == 0 ? v : r.weight;
            r.page = what == 1 ? v : r.page;
            return was;
        }

        int drop(int road) {
            if (!isRoad(road)) {
                return BAD;
            }
            land.roads.remove(road);
            return land.roads.size();
        }

        int cross(int one, int other) {
            if (!isRoad(one) || !isRoad(other) || one == other) {
                return BAD;
            }
            return land.straight(land.roads.get(one), land.roads.get(other)) ? 1 : 0;
        }

        int straight(int what) {
            if (!in(what, 0, 2)) {
                return BAD;
            }
            if (what < 2) {
                return what == 0 ? land.pairs(land::straight) : land.sum(land::straight);
            }
            if (land.pairs(land::straight) == 0) {
                return NONE;
            }
            int[] own = new int[land.roads.size()];
            for (int i = 0; i < own.length; i++) {
                for (int j = i + 1; j < own.length; j++) {
                    if (land.straight(land.roads.get(i), land.roads.get(j))) {
                        int cost = land.cost(land.roads.get(i), land.roads.get(j));
                        own[i] += cost;
                        own[j] += cost;
                    }
                }
            }
            int most = Arrays.stream(own).max().getAsInt();
            int first = 0;
            while (own[first] < most) {
                first++;
            }
            return first;
        }

        int bound() {
            int p = land.posts.size();
            int r = land.roads.size();
            if (p < 3) {
                return 0;
            }
            int[] side = new int[p];
            boolean odd = false;
            for (int i = 0; i < p; i++) {
                odd |= side[i] == 0 && isOdd(side, i, 1);
            }
            return Math.max(0, Math.max(r + 6 - 3 * p, odd ? 0 : r + 4 - 2 * p));
        }

        private boolean isOdd(int[] side, int post, int v) {
            if (side[post] != 0) {
                return side[post] != v;
            }
            side[post] = v;
            boolean odd = false;
            for (Road r : land.roads) {
                if (r.a == post || r.b == post) {
                    odd |= isOdd(side, r.a == post ? r.b : r.a, -v);
                }
            }
            return odd;
        }

        int would(int a, int b) {
            if (!isPost(a) || !isPost(b) || a == b) {
                return BAD;
            }
            return land.behind(a, b) - land.sum(land::straight);
        }

        int best(int what) {
            if (!in(what, 0, 1)) {
                return BAD;
            }
            int[] best = land.bestSwap();
            return best == null ? NONE : what == 0 ? 10 * best[0] + best[1] : best[2];
        }

        int swaps(int n) {
            if (!in(n, 1, 30)) {
                return BAD;
            }
            for (int done = 0; done < n; done++) {
                int[] best = land.bestSwap();
                if (best == null) {
                    return done;
                }
                land.swap(best[0], best[1]);
            }
            return n;
        }

        int line(int sheet) {
            if (!in(sheet, 0, 3)) {
                return BAD;
            }
            if (sheets[sheet] == null) {
                return NOTHING;
            }
            List<Integer> row = Arrays.asList(sheets[sheet]).subList(1, sheets[sheet].length);
            if (row.size() != land.posts.size()) {
                return SIZE;
            }
            if (row.contains(null)) {
                return KIND;
            }
            for (int p = 0; p < row.size(); p++) {
                if (!row.contains(p)) {
                    return BAD;
                }
            }
            land.line.clear();
            land.line.addAll(row);
            return row.size();
        }

        int at(int place) {
            return isPost(place) ? land.line.get(place) : BAD;
        }

        private boolean inBook(Road r, Road s) {
            return r.page == s.page && land.inRow(land.line, r, s);
        }

        int book(int what) {
            return !in(what, 0, 1) ? BAD : what == 0 ? land.pairs(this::inBook) : land.sum(this::inBook);
        }

        int pages(int what) {
            if (what != -1 && !isRoad(what)) {
                return BAD;
            }
            int n = land.roads.size();
            boolean[][] clash = new boolean[n][n];
            for (int i = 0; i < n; i++) {
                for (int j = 0; j < n; j++) {
                    clash[i][j] = land.inRow(land.line, land.roads.get(i), land.roads.get(j));
                }
            }
            for (int k = 0;; k++) {
                int[] page = new int[n];
                if (fill(clash, page, 0, k)) {
                    return what == -1 ? k : page[what];
                }
            }
        }

        private static boolean fill(boolean[][] clash, int[] page, int road, int k) {
            if (road == page.length) {
                return true;
            }
            for (page[road] = 0; page[road] < k; page[road]++) {
                boolean fine = true;
                for (int other = 0; other < road; other++) {
                    fine &= page[other] != page[road] || !clash[road][other];
                }
                if (fine && fill(clash, page, road + 1, k)) {
                    return true;
                }
            }
            return false;
        }

        int bestLine(int what) {
            int n = land.posts.size();
            if (what < -1) {
                return BAD;
            }
            if (n == 0) {
                return NO;
            }
            if (what >= n) {
                return NONE;
            }
            int[][] costs = new int[land.roads.size()][land.roads.size()];
            for (int i = 0; i < costs.length; i++) {
                for (int j = i + 1; j < costs.length; j++) {
                    costs[i][j] = Land.apart(land.roads.get(i), land.roads.get(j)) ? land.cost(land.roads.get(i), land.roads.get(j)) : 0;
                }
            }
            int[] best = null;
            int least = 0;
            for (int[] row : orders(n)) {
                int cost = row[0] == 0 ? lineCost(costs, row) : 0;
                if (row[0] == 0 && (best == null || cost < least)) {
                    best = row;
                    least = cost;
                }
            }
            return what == -1 ? least : best[what];
        }

        private int lineCost(int[][] costs, int[] row) {
            int[] at = new int[row.length];
            for (int i = 0; i < row.length; i++) {
                at[row[i]] = i;
            }
            int sum = 0;
            for (int i = 0; i < costs.length; i++) {
                int a = Math.min(at[land.roads.get(i).a], at[land.roads.get(i).b]);
                int b = Math.max(at[land.roads.get(i).a], at[land.roads.get(i).b]);
                for (int j = i + 1; j < costs.length; j++) {
                    int c = Math.min(at[land.roads.get(j).a], at[land.roads.get(j).b]);
                    int d = Math.max(at[land.roads.get(j).a], at[land.roads.get(j).b]);
                    sum += a < c && c < b && b < d || c < a && a < d && d < b ? costs[i][j] : 0;
                }
            }
            return sum;
        }

        private static List<int[]> orders(int n) {
            List<int[]> all = new ArrayList<>();
            collect(all, new int[n], 0);
            return all;
        }

        private static void collect(List<int[]> all, int[] row, int place) {
            if (place == row.length) {
                all.add(row.clone());
                return;
            }
            for (int v = 0; v < row.length; v++) {
                boolean fresh = true;
                for (int i = 0; i < place; i++) {
                    fresh &= row[i] != v;
                }
                if (fresh) {
                    row[place] = v;
                    collect(all, row, place + 1);
                }
            }
        }

        int layers(int what) {
            Meeting m = (r, s) -> land.inLayers(land.line, r, s);
            return !in(what, 0, 1) ? BAD : what == 0 ? land.pairs(m) : land.sum(m);
        }

        int bestRow(int layer, int what) {
            if (!in(layer, 0, 3) || what < -1) {
                return BAD;
            }
            List<Integer> members = new ArrayList<>();
            List<Integer> places = new ArrayList<>();
            for (int p = 0; p < land.posts.size(); p++) {
                if (land.posts.get(p).layer == layer) {
                    members.add(p);
                }
                if (land.posts.get(land.line.get(p)).layer == layer) {
                    places.add(p);
                }
            }
            if (members.size() > 5) {
                return NO;
            }
            if (what >= members.size()) {
                return NONE;
            }
            int[] best = null;
            int least = 0;
            for (int[] order : orders(members.size())) {
                List<Integer> row = new ArrayList<>(land.line);
                for (int i = 0; i < order.length; i++) {
                    row.set(places.get(i), members.get(order[i]));
                }
                int cost = land.sum((r, s) -> land.inLayers(row, r, s));
                if (best == null || cost < least) {
                    best = order;
                    least = cost;
                }
            }
            return what == -1 ? least : members.get(best[what]);
        }

        int deal(int what, int n) {
            if (!in(what, 0, 1) || !in(n, 1, 20)) {
                return BAD;
            }
            if (what == 1 && land.posts.isEmpty()) {
                return NO;
            }
            int before = land.posts.size() + land.roads.size();
            for (int i = 0; i < n; i++) {
                if (what == 0) {
                    int x = land.draw(100);
                    land.addPost(x, land.draw(100));
                } else {
                    int a = land.draw(land.posts.size());
                    int b = land.draw(land.posts.size());
                    if (a != b && land.between(a, b) == null && land.roads.size() < 18) {
                        land.roads.add(new Road(0, Math.min(a, b), Math.max(a, b), 1 + land.draw(9), 0));
                    }
                }
            }
            return land.posts.size() + land.roads.size() - before;
        }

        int seed(int v) {
            int was = land.z;
            land.z = v;
            return was;
        }

        int feed(int a, int b, int c) {
            if (tape.length() > 84) {
                return FULL;
            }
            for (int v : new int[] {a, b, c}) {
                tape += "" + (char) (v >> 24 & 255) + (char) (v >> 16 & 255) + (char) (v >> 8 & 255) + (char) (v & 255);
            }
            return tape.length();
        }

        int trim(int n) {
            if (!in(n, 0, tape.length())) {
                return BAD;
            }
            tape = tape.substring(0, n);
            return n;
        }

        int text() {
            Text text = new Text(tape);
            tape = "";
            if (text.fault >= 0) {
                return -100 - text.fault;
            }
            if (land.texts.size() == 14) {
                return FULL;
            }
            land.texts.add(text);
            return land.texts.size() - 1;
        }

        int textTold(int text, int what) {
            if (!in(text, 0, land.texts.size() - 1) || !in(what, 0, 1)) {
                return BAD;
            }
            return what == 0 ? land.texts.get(text).key : land.texts.get(text).leaves;
        }

        int why(int key) {
            if (!in(key, 0, 2)) {
                return BAD;
            }
            Text law = land.law(key);
            return law == null ? NONE : land.texts.indexOf(law);
        }

        int sheet(int sheet, int sort, int n) {
            if (!in(sheet, 0, 3) || !in(sort, -1, 1) || sort >= 0 && n > 24) {
                return BAD;
            }
            if (sort == -1) {
                sheets[sheet] = null;
                return 0;
            }
            if (n < 0) {
                return SIZE;
            }
            sheets[sheet] = new Integer[n + 1];
            Arrays.fill(sheets[sheet], 0);
            sheets[sheet][0] = sort;
            return n;
        }

        int mark(int sheet, int place, int v) {
            if (!in(sheet, 0, 3)) {
                return BAD;
            }
            Integer[] row = sheets[sheet];
            if (row == null) {
                return NOTHING;
            }
            if (!in(place, 0, row.length - 2)) {
                return INDEX;
            }
            if (row[0] == 0) {
                if (v == NONE) {
                    return KIND;
                }
                int low = v & 65535;
                row[place + 1] = low > 32767 ? low - 65536 : low;
                return 1;
            }
            if (v != NONE && !in(v, -99999, 99999)) {
                return BAD;
            }
            row[place + 1] = v == NONE ? null : Integer.valueOf(v);
            return 1;
        }

        int pour(int sheet) {
            if (!in(sheet, 0, 3)) {
                return BAD;
            }
            if (sheets[sheet] == null) {
                return NOTHING;
            }
            int came = 0;
            for (Integer v : Arrays.asList(sheets[sheet]).subList(1, sheets[sheet].length)) {
                if (v == null || !land.addPost(Math.floorDiv(v, 100), Math.floorMod(v, 100))) {
                    return came;
                }
                came++;
            }
            return came;
        }

        int copy(int from, int place, int to, int at, int many) {
            if (!in(from, 0, 3) || !in(to, 0, 3)) {
                return BAD;
            }
            if (sheets[from] == null || sheets[to] == null) {
                return NOTHING;
            }
            if (!sheets[from][0].equals(sheets[to][0])) {
                return KIND;
            }
            if (place < 0 || at < 0 || many < 0 || (long) place + many > sheets[from].length - 1 || (long) at + many > sheets[to].length - 1) {
                return INDEX;
            }
            Integer[] were = sheets[from].clone();
            for (int i = 0; i < many; i++) {
                sheets[to][1 + at + i] = were[1 + place + i];
            }
            return many;
        }

        private int thing(int slot) {
            Object held = slots[slot];
            return held == null ? 0 : held instanceof Road ? 1 : held instanceof Integer[] ? 2 : 3;
        }

        int lay(int slot, int thing, int k) {
            if (!in(slot, 0, 4) || !in(thing, 0, 3) || thing == 1 && !isRoad(k) || thing == 2 && !in(k, 0, 3)) {
                return BAD;
            }
            if (thing == 2 && sheets[k] == null) {
                return NOTHING;
            }
            int was = thing(slot);
            if (thing == 1) {
                Road r = land.roads.get(k);
                slots[slot] = new Road(r.kind, r.a, r.b, r.weight, r.page);
            } else {
                slots[slot] = thing == 0 ? null : thing == 2 ? sheets[k].clone() : (Object) Integer.valueOf(k);
            }
            return was;
        }

        int ask(int slot, int kind) {
            if (!in(slot, 0, 4) || !in(kind, 0, 5)) {
                return BAD;
            }
            if (slots[slot] == null) {
                return NOTHING;
            }
            return thing(slot) == 1 && ((Road) slots[slot]).isOf(kind) ? ((Road) slots[slot]).worth() : KIND;
        }

        int item(int slot, int place) {
            if (!in(slot, 0, 4)) {
                return BAD;
            }
            if (thing(slot) != 2) {
                return thing(slot) == 0 ? NOTHING : KIND;
            }
            Integer[] row = (Integer[]) slots[slot];
            if (!in(place, 0, row.length - 2)) {
                return INDEX;
            }
            return row[place + 1] == null ? KIND : row[place + 1];
        }

        int rest(int slot, int n) {
            if (!in(slot, 0, 4)) {
                return BAD;
            }
            if (thing(slot) != 3) {
                return thing(slot) == 0 ? NOTHING : KIND;
            }
            return n == 0 ? NO : (int) ((long) (Integer) slots[slot] % n);
        }

        int tell(int v) {
            if (waiting.size() == 60) {
                return FULL;
            }
            waiting.add(v);
            return waiting.size();
        }

        List<Integer> swapsTold(int n) {
            Land t = image.twin();
            List<Integer> row = new ArrayList<>();
            for (int i = 0; i < n; i++) {
                int[] best = t.bestSwap();
                if (best != null) {
                    t.swap(best[0], best[1]);
                }
                row.add(best == null ? -1 : 10 * best[0] + best[1]);
                row.add(t.sum(t::straight));
            }
            return row;
        }

        int check(int n) {
            List<Integer> told = new ArrayList<>(waiting);
            waiting.clear();
            if (!in(n, 1, 30)) {
                return BAD;
            }
            if (image == null) {
                return NO;
            }
            List<Integer> row = swapsTold(n);
            if (row.equals(told)) {
                return 0;
            }
            int right = 0;
            while (right < row.size() && right < told.size() && row.get(right).equals(told.get(right))) {
                right++;
            }
            return 1 + right;
        }

        int keep() {
            image = land.twin();
            return land.roads.size();
        }

        int back() {
            if (image == null) {
                return NO;
            }
            land = image.twin();
            return land.roads.size();
        }

        int count(int what) {
            if (!in(what, 0, 5)) {
                return BAD;
            }
            return new int[] {land.posts.size(), land.roads.size(), land.texts.size(), waiting.size(), tape.length(), land.z}[what];
        }
    }
}
